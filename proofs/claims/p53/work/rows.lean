section
-- ===== PART A: goes FIRST, ahead of the names: the tables' words, and 'selects' of the private methods out of them =====
/-- a private method of a class that the tables say can be made, by its rows of tables_1 -/
def lw_okq (q : MethodName × Nat) : Prop := (q.1.cls ≠ "java/lang/invoke/MethodHandle" ∧ q.1.cls ≠ "java/lang/invoke/VarHandle") ∧ Cond.instantiable q.1.cls q.2 ∈ tables_1 ∧ Cond.privateMethod q.1 ∈ tables_1 ∧ Cond.instanceMethod q.1 ∈ tables_1
theorem lw_p0 : lw_okq (⟨"CarTangos", "hashOfPark", "(J)J"⟩, 7) := ⟨⟨by decide +kernel, by decide +kernel⟩, List.mem_of_getElem? (i := 15) (by decide +kernel), List.mem_of_getElem? (i := 163) (by decide +kernel), List.mem_of_getElem? (i := 164) (by decide +kernel)⟩
theorem lw_p1 : lw_okq (⟨"CarTangos", "exploreNow", "()V"⟩, 7) := ⟨⟨by decide +kernel, by decide +kernel⟩, List.mem_of_getElem? (i := 15) (by decide +kernel), List.mem_of_getElem? (i := 232) (by decide +kernel), List.mem_of_getElem? (i := 233) (by decide +kernel)⟩
theorem lw_p2 : lw_okq (⟨"CarTangos", "hashOfPlans", "(J)J"⟩, 7) := ⟨⟨by decide +kernel, by decide +kernel⟩, List.mem_of_getElem? (i := 15) (by decide +kernel), List.mem_of_getElem? (i := 254) (by decide +kernel), List.mem_of_getElem? (i := 255) (by decide +kernel)⟩
theorem lw_p3 : lw_okq (⟨"CarTangos", "hashOfArrangements", "(J)J"⟩, 7) := ⟨⟨by decide +kernel, by decide +kernel⟩, List.mem_of_getElem? (i := 15) (by decide +kernel), List.mem_of_getElem? (i := 347) (by decide +kernel), List.mem_of_getElem? (i := 348) (by decide +kernel)⟩
theorem lw_p4 : lw_okq (⟨"CarTangos", "hashOfCells", "(J)J"⟩, 7) := ⟨⟨by decide +kernel, by decide +kernel⟩, List.mem_of_getElem? (i := 15) (by decide +kernel), List.mem_of_getElem? (i := 363) (by decide +kernel), List.mem_of_getElem? (i := 364) (by decide +kernel)⟩
theorem lw_p5 : lw_okq (⟨"CarTangos", "hashOfCars", "(J)J"⟩, 7) := ⟨⟨by decide +kernel, by decide +kernel⟩, List.mem_of_getElem? (i := 15) (by decide +kernel), List.mem_of_getElem? (i := 375) (by decide +kernel), List.mem_of_getElem? (i := 376) (by decide +kernel)⟩
theorem lw_p6 : lw_okq (⟨"CarTangos", "hashOfLog", "(J)J"⟩, 7) := ⟨⟨by decide +kernel, by decide +kernel⟩, List.mem_of_getElem? (i := 15) (by decide +kernel), List.mem_of_getElem? (i := 380) (by decide +kernel), List.mem_of_getElem? (i := 381) (by decide +kernel)⟩
theorem lw_p7 : lw_okq (⟨"CarTangos", "hashOfText", "(J)J"⟩, 7) := ⟨⟨by decide +kernel, by decide +kernel⟩, List.mem_of_getElem? (i := 15) (by decide +kernel), List.mem_of_getElem? (i := 393) (by decide +kernel), List.mem_of_getElem? (i := 394) (by decide +kernel)⟩
theorem lw_p8 : lw_okq (⟨"java/lang/Throwable", "fillInStackTrace", "(I)Ljava/lang/Throwable;"⟩, 6) := ⟨⟨by decide +kernel, by decide +kernel⟩, List.mem_of_getElem? (i := 471) (by decide +kernel), List.mem_of_getElem? (i := 469) (by decide +kernel), List.mem_of_getElem? (i := 470) (by decide +kernel)⟩
theorem lw_p9 : lw_okq (⟨"CarTangos", "save", "()V"⟩, 7) := ⟨⟨by decide +kernel, by decide +kernel⟩, List.mem_of_getElem? (i := 15) (by decide +kernel), List.mem_of_getElem? (i := 533) (by decide +kernel), List.mem_of_getElem? (i := 534) (by decide +kernel)⟩
theorem lw_p10 : lw_okq (⟨"CarTangos", "dropOldestSaved", "()V"⟩, 7) := ⟨⟨by decide +kernel, by decide +kernel⟩, List.mem_of_getElem? (i := 15) (by decide +kernel), List.mem_of_getElem? (i := 537) (by decide +kernel), List.mem_of_getElem? (i := 538) (by decide +kernel)⟩
theorem lw_p11 : lw_okq (⟨"CarTangos", "slidesToDriveOut", "()I"⟩, 7) := ⟨⟨by decide +kernel, by decide +kernel⟩, List.mem_of_getElem? (i := 15) (by decide +kernel), List.mem_of_getElem? (i := 610) (by decide +kernel), List.mem_of_getElem? (i := 611) (by decide +kernel)⟩
theorem lw_p12 : lw_okq (⟨"CarTangos", "makePlan", "(I)Z"⟩, 7) := ⟨⟨by decide +kernel, by decide +kernel⟩, List.mem_of_getElem? (i := 15) (by decide +kernel), List.mem_of_getElem? (i := 615) (by decide +kernel), List.mem_of_getElem? (i := 616) (by decide +kernel)⟩
theorem lw_p13 : lw_okq (⟨"CarTangos", "tryPart", "(I)Z"⟩, 7) := ⟨⟨by decide +kernel, by decide +kernel⟩, List.mem_of_getElem? (i := 15) (by decide +kernel), List.mem_of_getElem? (i := 670) (by decide +kernel), List.mem_of_getElem? (i := 671) (by decide +kernel)⟩
theorem lw_p14 : lw_okq (⟨"CarTangos", "tryEntering", "(III)Z"⟩, 7) := ⟨⟨by decide +kernel, by decide +kernel⟩, List.mem_of_getElem? (i := 15) (by decide +kernel), List.mem_of_getElem? (i := 678) (by decide +kernel), List.mem_of_getElem? (i := 679) (by decide +kernel)⟩
theorem lw_p15 : lw_okq (⟨"CarTangos", "tryWall", "(I)Z"⟩, 7) := ⟨⟨by decide +kernel, by decide +kernel⟩, List.mem_of_getElem? (i := 15) (by decide +kernel), List.mem_of_getElem? (i := 687) (by decide +kernel), List.mem_of_getElem? (i := 688) (by decide +kernel)⟩
def lw_privs_1 : List (MethodName × Nat) := [(⟨"CarTangos", "hashOfPark", "(J)J"⟩, 7), (⟨"CarTangos", "exploreNow", "()V"⟩, 7), (⟨"CarTangos", "hashOfPlans", "(J)J"⟩, 7), (⟨"CarTangos", "hashOfArrangements", "(J)J"⟩, 7), (⟨"CarTangos", "hashOfCells", "(J)J"⟩, 7), (⟨"CarTangos", "hashOfCars", "(J)J"⟩, 7), (⟨"CarTangos", "hashOfLog", "(J)J"⟩, 7), (⟨"CarTangos", "hashOfText", "(J)J"⟩, 7), (⟨"java/lang/Throwable", "fillInStackTrace", "(I)Ljava/lang/Throwable;"⟩, 6), (⟨"CarTangos", "save", "()V"⟩, 7), (⟨"CarTangos", "dropOldestSaved", "()V"⟩, 7), (⟨"CarTangos", "slidesToDriveOut", "()I"⟩, 7), (⟨"CarTangos", "makePlan", "(I)Z"⟩, 7), (⟨"CarTangos", "tryPart", "(I)Z"⟩, 7), (⟨"CarTangos", "tryEntering", "(III)Z"⟩, 7), (⟨"CarTangos", "tryWall", "(I)Z"⟩, 7)]
theorem lw_r1 : ∀ q ∈ lw_privs_1, lw_okq q := List.forall_mem_cons.mpr ⟨lw_p0, List.forall_mem_cons.mpr ⟨lw_p1, List.forall_mem_cons.mpr ⟨lw_p2, List.forall_mem_cons.mpr ⟨lw_p3, List.forall_mem_cons.mpr ⟨lw_p4, List.forall_mem_cons.mpr ⟨lw_p5, List.forall_mem_cons.mpr ⟨lw_p6, List.forall_mem_cons.mpr ⟨lw_p7, List.forall_mem_cons.mpr ⟨lw_p8, List.forall_mem_cons.mpr ⟨lw_p9, List.forall_mem_cons.mpr ⟨lw_p10, List.forall_mem_cons.mpr ⟨lw_p11, List.forall_mem_cons.mpr ⟨lw_p12, List.forall_mem_cons.mpr ⟨lw_p13, List.forall_mem_cons.mpr ⟨lw_p14, List.forall_mem_cons.mpr ⟨lw_p15, fun _ h => absurd h List.not_mem_nil⟩⟩⟩⟩⟩⟩⟩⟩⟩⟩⟩⟩⟩⟩⟩⟩
theorem lw_p16 : lw_okq (⟨"CarTangos", "tryTakingBack", "()Z"⟩, 7) := ⟨⟨by decide +kernel, by decide +kernel⟩, List.mem_of_getElem? (i := 15) (by decide +kernel), List.mem_of_getElem? (i := 705) (by decide +kernel), List.mem_of_getElem? (i := 706) (by decide +kernel)⟩
theorem lw_p17 : lw_okq (⟨"CarTangos", "trySliding", "(II)Z"⟩, 7) := ⟨⟨by decide +kernel, by decide +kernel⟩, List.mem_of_getElem? (i := 15) (by decide +kernel), List.mem_of_getElem? (i := 713) (by decide +kernel), List.mem_of_getElem? (i := 714) (by decide +kernel)⟩
theorem lw_p18 : lw_okq (⟨"CarTangos", "hasNextSlide", "()Z"⟩, 7) := ⟨⟨by decide +kernel, by decide +kernel⟩, List.mem_of_getElem? (i := 15) (by decide +kernel), List.mem_of_getElem? (i := 811) (by decide +kernel), List.mem_of_getElem? (i := 812) (by decide +kernel)⟩
def lw_privs_2 : List (MethodName × Nat) := [(⟨"CarTangos", "tryTakingBack", "()Z"⟩, 7), (⟨"CarTangos", "trySliding", "(II)Z"⟩, 7), (⟨"CarTangos", "hasNextSlide", "()Z"⟩, 7)]
theorem lw_r2 : ∀ q ∈ lw_privs_2, lw_okq q := List.forall_mem_cons.mpr ⟨lw_p16, List.forall_mem_cons.mpr ⟨lw_p17, List.forall_mem_cons.mpr ⟨lw_p18, fun _ h => absurd h List.not_mem_nil⟩⟩⟩
def lw_privs : List (MethodName × Nat) := lw_privs_1 ++ (lw_privs_2)
def lw_tbl : List Cond := k2_sels lw_privs ++ tables_1
theorem lw_privs_ok : ∀ q ∈ lw_privs, lw_okq q := by
  show ∀ q ∈ lw_privs_1 ++ (lw_privs_2), lw_okq q
  exact List.forall_mem_append.mpr ⟨lw_r1, lw_r2⟩
/-- the streams that the claim lets the run draw from -/
abbrev lw_cs : List Choice := [Jvm.Choice.named "NaN.bits"]
theorem lw_bits : nanBits ∈ lw_cs := by first | decide | exact List.mem_cons_self | simp [lw_cs, nanBits]
end
section
/-! ===== BEGIN words of one list among another's, by their places ===== -/
theorem goodIn_r {big : List Cond} (ws : List Cond) (ps : List Nat) (hp : ws = ps.filterMap (fun i => big[i]?)) (h : ws.all goodWord = true) : GoodIn big ws := by
  intro w hw
  have h1 := List.all_eq_true.mp h w hw
  rw [hp] at hw
  obtain ⟨i, -, hi⟩ := List.mem_filterMap.mp hw
  have hm : w ∈ big := by first | exact List.mem_of_getElem? hi | exact List.getElem?_mem hi
  exact ⟨hm, good_of_word h1⟩
theorem goodIn_app {big a b : List Cond} (ha : GoodIn big a) (hb : GoodIn big b) : GoodIn big (a ++ b) := fun w h => (List.mem_append.mp h).elim (ha w) (hb w)
theorem goodIn_ca {big a b : List Cond} {c : Cond} (ha : GoodIn big (c :: a)) (hb : GoodIn big b) : GoodIn big (c :: (a ++ b)) := fun w h => (List.mem_cons.mp h).elim (fun e => ha w (List.mem_cons.mpr (Or.inl e))) (fun h => (List.mem_append.mp h).elim (fun h => ha w (List.mem_cons.mpr (Or.inr h))) (hb w))
theorem goodIn_sub {big ws : List Cond} (hm : ∀ w ∈ ws, w ∈ big) (h : ws.all goodWord = true) : GoodIn big ws := fun w hw => ⟨hm w hw, good_of_word (List.all_eq_true.mp h w hw)⟩
/-! ===== END ===== -/

/-! ===== BEGIN exceptions that leave a method, and their catching by the caller (launches without stack traces) ===== -/
section VXA
/-! The laws vx_back, vx_callV, vx_callS, vx_callSW, vx_throw0, vx_throwS follow proofs of the library, with one case more: JvmDerived/Free/Laws.lean (Back.of_free), Shelf42/LK1.lean (callV, callS), Shelf/KitTraced.lean (throwNew0V, throwNewS). -/
/-- where a method has thrown q: the class by its name, the cell, what was written, the world -/
def vx_T (XC : String → State → State → Prop) (st : State) (q : Addr) (t : State) (mc ms : Nat) (free : Addr → Prop) : Prop :=
  ∃ (E : String) (ce : Cell) (L : List Loc), XC E st t ∧ t.heap[q]? = some ce ∧ ce.vm = .none ∧ st.vm.findClass E = some ce.cls ∧ st.WarmedH t.vm ∧ st.sameButNew ({ t with vm := st.vm } : State) L mc ms ∧ ∀ z ∈ L, free z.base
def vx_Q (Qc : Array Value → State → Outcome → State → Prop) (XC : String → State → State → Prop) (mc ms : Nat) (free : Addr → Prop) : Array Value → State → Outcome → State → Prop := fun a st o t =>
  (Qc a st o t ∧ ∃ L, FrameEnd st o t L mc ms ∧ ∀ q ∈ L, free q.base) ∨ ∃ q, o = .threw q ∧ vx_T XC st q t mc ms free
/-- a callee that returns or throws -/
def vx_Met (l : Launch) (y : MethodName) (ws : List Cond) (rm : Room) (Pc : Array Value → State → Prop) (Qc : Array Value → State → Outcome → State → Prop) (XC : String → State → State → Prop) (mc ms : Nat) (free : Addr → Prop) : Prop :=
  MetFree l y (headSpec ws rm) Pc (fun _ _ _ _ _ => True) (vx_Q Qc XC mc ms free)
def vx_Post (XC : String → State → State → Prop) (mc ms : Nat) (free : Addr → Prop) : Pt → Array Value → Addr → Pt → Prop := fun A a q B =>
  ∃ (g : JFrame) (mk : MethodId) (t : State) (L : List Loc) (E : String) (ce : Cell), B.U.heap = t.heap ∧ B.U.vm = t.vm ∧ XC E (A.U.calling g mk a) t ∧ t.heap[q]? = some ce ∧ ce.vm = .none ∧ A.U.vm.findClass E = some ce.cls ∧ B.locs = A.locs ++ L ∧ (∀ z ∈ L, free z.base) ∧ B.cells = A.cells + mc ∧ B.slots = A.slots + ms
def vx_Back (l : Launch) (R : Room) (p : Program) (e : Env) (below : List Frame) (s : State) (sargs : Array Value) (y : MethodName) (len W9 : Nat)
    (Pre : Pt → Array Value → Prop) (Post : Pt → Array Value → Option Value → Pt → Prop) (PostX : Pt → Array Value → Addr → Pt → Prop) : Prop :=
  ∀ (m : MethodId) (meth : Method) (c : Code) (A : Pt) (g : JFrame) (ig : Instr) (mk : MethodId) (a : Array Value),
    Stand p l e R s m sargs below meth c A.U A.locs A.cells A.slots → g.method = m → g.locals.size = c.maxLocals → decode c.code g.pc = .ok (ig, len) →
    2 * g.monitorRoom + (g.stack.map fun v => v.category).sum ≤ W9 → A.U.methodNamed? y = some mk → Pre A a →
    (∃ (v : Option Value) (B : Pt), Stand p l e R s m sargs below meth c B.U B.locs B.cells B.slots ∧ Post A a v B ∧
      Steps p.tables e below (doInvoke e (A.U.setTop g) [] mk a).1 (B.U.setTop { g with pc := g.pc + len, stack := v.toList ++ g.stack })) ∨
    (∃ (q : Addr) (B : Pt), Stand p l e R s m sargs below meth c B.U B.locs B.cells B.slots ∧ PostX A a q B ∧
      Steps p.tables e below (doInvoke e (A.U.setTop g) [] mk a).1 ((B.U.setTop g).pushFrame (.throwing q)))
section Payer
variable {l : Launch} {R : Room} {p : Program} {e : Env} {below : List Frame} {s : State} {sargs : Array Value} {y : MethodName} {len W9 : Nat}
theorem vx_back {ws : List Cond} {rm : Room} {Pc : Array Value → State → Prop} {Qc : Array Value → State → Outcome → State → Prop} {XC : String → State → State → Prop} {mc ms : Nat} {free : Addr → Prop} {bytes : ByteArray} {maxL : Nat} {ret : Option FieldType}
    (hM : vx_Met l y ws rm Pc Qc XC mc ms free) (hblind : FrameBlind Pc) (hrc : rm.cells = mc) (hrs : rm.slots = ms)
    (hframes : rm.frames + 1 ≤ R.frames) (hlocals : W9 + (maxL + 11) + rm.locals ≤ R.locals)
    (hws : ∀ w ∈ ws, ∀ a' U, s.WarmedH U.vm → w.before a' U = true) (hcode : Cond.code y bytes maxL ret ∈ ws) (hinit : ∀ a' U, s.WarmedH U.vm → (Cond.initialized y.cls).before a' U = true) :
    vx_Back l R p e below s sargs y len W9 (PreOf R mc ms Pc) (PostOf Qc mc ms free) (vx_Post XC mc ms free) := by
  intro m meth c A g ig mk a X hg hsize hdg hW hn hp
  have h1 : (headSpec ws rm).pre.before a A.U = true := atoms_intro fun w hw => hws w hw _ _ X.warmed
  have h2 : (Cond.code y bytes maxL ret).before a A.U = true := hws _ hcode _ _ X.warmed
  have h3 : (Cond.initialized y.cls).before a A.U = true := hinit _ _ X.warmed
  have h4 : A.cells + (headSpec ws rm).room.cells ≤ R.cells := by rw [show (headSpec ws rm).room.cells = mc from hrc]; exact hp.1
  have h5 : A.slots + (headSpec ws rm).room.slots ≤ R.slots := by rw [show (headSpec ws rm).room.slots = ms from hrs]; exact hp.2.1
  have hPc : Pc a (A.U.calling g mk a) := hblind _ _ _ _ hp.2.2
  obtain ⟨U, Ls, c0, s0⟩ := A
  dsimp only [Pt.U, Pt.locs, Pt.cells, Pt.slots] at h1 h2 h3 h4 h5 X hn hPc ⊢
  obtain ⟨methY, cY, hmY, hcY, -, hlY, -, -, -, -⟩ := Cond.code_spec hn h2
  obtain ⟨kY, hkY, -⟩ := className_of_methodNamed hn
  have hinitY : kY.init = .initialized := Cond.initialized_spec (findClass_of_methodNamed hn) hkY h3
  have h : At U g.method c below := by rw [hg]; exact X.here
  have hlocals9 : W9 + (maxL + 11) + (headSpec ws rm).room.locals ≤ R.locals := hlocals
  have happ : (headSpec ws rm).appliesLoose y e.platform (U.calling g mk a) = true :=
    Spec.appliesLoose_calling (g := g) h hdg hn hkY hinitY
      (X.room_calling (g := g) (R' := (headSpec ws rm).room) hsize hmY hcY hframes (by rw [hlY]; omega) h4 h5) h1
  obtain ⟨mid, hmid⟩ := h.above
  have hfr : (U.setTop g).frames = (.java g :: mid) ++ below := by rw [State.frames_setTop' g h.top, hmid]; rfl
  obtain ⟨o, s₂, hsteps, -, hend, hq⟩ := Steps.callFree hM p X.admits X.cas X.clock (acts := []) hfr happ hPc trivial
  have hq' : vx_Q Qc XC mc ms free a (U.calling g mk a) o s₂ := hq
  rw [State.frames_setTop' g h.top] at hend
  obtain ⟨g₀, hg0⟩ := Option.isSome_iff_exists.mp h.top
  obtain ⟨r, hr⟩ := State.topJava?_eq_some.mp hg0
  have hr' : (({ U with heap := s₂.heap, slotsUsed := s₂.slotsUsed } : State).setVm s₂.vm).frames = .java g₀ :: r := hr
  rcases hq' with ⟨hqc, L, hfe, hL⟩ | ⟨q, rfl, E, ce, L, hx, hce, hcv, hcl, hW₂, hsm, hL⟩
  · obtain ⟨⟨v, rfl⟩, hW₂, e2, q2, q3, q4, q5, q6⟩ := id hfe
    have e3 : s₂ = ({ (U.calling g mk a).setFrames s₂.frames with heap := s₂.heap, slotsUsed := s₂.slotsUsed } : State).setVm s₂.vm := by
      have : s₂ = ({ s₂ with vm := (U.calling g mk a).vm } : State).setVm s₂.vm := rfl
      rw [e2] at this
      exact this
    obtain ⟨c₂, i₂, len₂, hc₂, hd₂, hf₂⟩ := hend
    have hW' : U.WarmedH s₂.vm := hW₂
    have hcc : c₂ = c := by
      have h1 : s₂.code? g.method = U.code? g.method := by
        rw [State.code?_eq, State.code?_eq, hW'.alike.method?]
      exact Option.some.inj (hc₂.symm.trans (h1.trans h.code))
    subst hcc
    have hlen : len₂ = len := by rw [hdg] at hd₂; cases hd₂; rfl
    subst hlen
    have hs₂ : s₂ = (({ U with heap := s₂.heap, slotsUsed := s₂.slotsUsed } : State).setVm s₂.vm).setTop { g with pc := g.pc + len₂, stack := v.toList ++ g.stack } := by
      refine e3.trans ?_
      rw [hf₂, State.calling_eq h.top, State.setFrames_setFrames, State.setTop_of_frames _ hr', hr]
      rfl
    have hsame : U.sameButNew ({ U with heap := s₂.heap, slotsUsed := s₂.slotsUsed } : State) L mc ms := by
      refine ⟨?_, q2, q3, q4, q5, q6⟩
      obtain ⟨t, ht, -⟩ := State.frames_cons hr
      show ({ U with heap := s₂.heap, slotsUsed := s₂.slotsUsed } : State) = { U.setFrames U.frames with heap := s₂.heap, slotsUsed := s₂.slotsUsed }
      rw [State.setFrames_self ht]
    subst hg
    refine Or.inl ⟨v, ⟨(({ U with heap := s₂.heap, slotsUsed := s₂.slotsUsed } : State).setVm s₂.vm), Ls ++ L, c0 + mc, s0 + ms⟩,
      ⟨X.admits, X.cas, X.clock, X.frames, X.room, X.hears, X.method, X.code, (X.here.setHeapUsed s₂.heap s₂.slotsUsed).setVm hW'.alike, X.tail, State.WarmedH.trans X.warmed hW', X.limits, X.bytes, X.same.trans (hsame.setVm s.vm)⟩,
      ⟨g, mk, s₂, L, rfl, rfl, hqc, rfl, hL, rfl, rfl⟩, ?_⟩
    show Steps p.tables e below _ ((({ U with heap := s₂.heap, slotsUsed := s₂.slotsUsed } : State).setVm s₂.vm).setTop { g with pc := g.pc + len₂, stack := v.toList ++ g.stack })
    rw [← hs₂]
    exact hsteps
  · obtain ⟨e2, q2, q3, q4, q5, q6⟩ := id hsm
    have e3 : s₂ = ({ (U.calling g mk a).setFrames s₂.frames with heap := s₂.heap, slotsUsed := s₂.slotsUsed } : State).setVm s₂.vm := by
      have : s₂ = ({ s₂ with vm := (U.calling g mk a).vm } : State).setVm s₂.vm := rfl
      rw [e2] at this
      exact this
    have hf₂ : s₂.frames = .throwing q :: .java g :: U.frames.tail := hend
    have hW' : U.WarmedH s₂.vm := hW₂
    have hs₂ : s₂ = ((({ U with heap := s₂.heap, slotsUsed := s₂.slotsUsed } : State).setVm s₂.vm).setTop g).pushFrame (.throwing q) := by
      refine e3.trans ?_
      rw [hf₂, State.calling_eq h.top, State.setFrames_setFrames, State.pushFrame, State.frames_setTop _ hr', State.setTop_of_frames _ hr', State.setFrames_setFrames, hr]
      rfl
    have hsame : U.sameButNew ({ U with heap := s₂.heap, slotsUsed := s₂.slotsUsed } : State) L mc ms := by
      refine ⟨?_, q2, q3, q4, q5, q6⟩
      obtain ⟨t, ht, -⟩ := State.frames_cons hr
      show ({ U with heap := s₂.heap, slotsUsed := s₂.slotsUsed } : State) = { U.setFrames U.frames with heap := s₂.heap, slotsUsed := s₂.slotsUsed }
      rw [State.setFrames_self ht]
    subst hg
    refine Or.inr ⟨q, ⟨(({ U with heap := s₂.heap, slotsUsed := s₂.slotsUsed } : State).setVm s₂.vm), Ls ++ L, c0 + mc, s0 + ms⟩,
      ⟨X.admits, X.cas, X.clock, X.frames, X.room, X.hears, X.method, X.code, (X.here.setHeapUsed s₂.heap s₂.slotsUsed).setVm hW'.alike, X.tail, State.WarmedH.trans X.warmed hW', X.limits, X.bytes, X.same.trans (hsame.setVm s.vm)⟩,
      ⟨g, mk, s₂, L, E, ce, rfl, rfl, hx, hce, hcv, hcl, rfl, hL, rfl, rfl⟩, ?_⟩
    show Steps p.tables e below _ (((({ U with heap := s₂.heap, slotsUsed := s₂.slotsUsed } : State).setVm s₂.vm).setTop g).pushFrame (.throwing q))
    rw [← hs₂]
    exact hsteps
end Payer
section Calls
variable {p : Program} {l : Launch} {e : Env} {R : Room} {s : State} {m : MethodId} {args : Array Value} {below : List Frame} {meth : Method} {c : Code} {T : State} {locs : List Loc} {cells slots : Nat}
theorem vx_callV (X : Stand p l e R s m args below meth c T locs cells slots) (hexec : p.tables.exec = Jvm.exec) {own C : String} {index : Nat} {y : MethodName} {bytes : ByteArray} {maxL : Nat} {ret : Option FieldType}
    (hown : s.vm.findClass own = some m.cls) (hlink : (Cond.methodLink own index y).before args s = true) (hinst : (Cond.instanceMethod y).before args s = true) (hsel : (Cond.selects C y y).before args s = true)
    (hcode : (Cond.code y bytes maxL ret).before args s = true) (hy : y.cls ≠ "java/lang/invoke/MethodHandle" ∧ y.cls ≠ "java/lang/invoke/VarHandle")
    {W9 : Nat} {Pre : Pt → Array Value → Prop} {Post : Pt → Array Value → Option Value → Pt → Prop} {PostX : Pt → Array Value → Addr → Pt → Prop} (hK : vx_Back l R p e below s args y 3 W9 Pre Post PostX)
    {b : Addr} {cellB : Cell} (hcell : T.heap[b]? = some cellB) (hobj : cellB.vm.isStatics = false) (hcls : s.vm.findClass C = some cellB.cls)
    {g : JFrame} (hg : g.method = m) (hsize : g.locals.size = c.maxLocals) {argsL rest : List Value} (hlen : ∀ sig, parseMethodDescriptor y.desc = some sig → argsL.length = sig.parameters.length)
    (hstack : g.stack = argsL.reverse ++ .ref b :: rest) (hW : 2 * g.monitorRoom + (rest.map fun v => v.category).sum ≤ W9) (hdg : decode c.code g.pc = .ok (.invokevirtual index, 3))
    (hpre : ∀ vm₁, s.WarmedH vm₁ → Pre ⟨T.setVm vm₁, locs, cells, slots⟩ (Value.ref b :: argsL).toArray) :
    (∃ (v : Option Value) (vm₁ : Vm) (B : Pt), s.WarmedH vm₁ ∧ Stand p l e R s m args below meth c B.U B.locs B.cells B.slots ∧ Post ⟨T.setVm vm₁, locs, cells, slots⟩ (Value.ref b :: argsL).toArray v B ∧
      ∀ target, Steps p.tables e below (B.U.setTop { g with pc := g.pc + 3, stack := v.toList ++ rest }) target → Steps p.tables e below (T.setTop g) target) ∨
    (∃ (q : Addr) (vm₁ : Vm) (B : Pt), s.WarmedH vm₁ ∧ Stand p l e R s m args below meth c B.U B.locs B.cells B.slots ∧ PostX ⟨T.setVm vm₁, locs, cells, slots⟩ (Value.ref b :: argsL).toArray q B ∧
      Steps p.tables e below (T.setTop g) ((B.U.setTop { g with stack := rest }).pushFrame (.throwing q))) := by
  obtain ⟨mk, methM, hnamed, hmethM, hstM, habM⟩ := Cond.instanceMethod_spec hinst
  obtain ⟨methM', cM, hmethM', -, -, -, -, -, -, hsigM⟩ := Cond.code_spec hnamed hcode
  cases hmethM.symm.trans hmethM'
  obtain ⟨c2, r2, m2, q1, q2, q3, q4, kP, hkP, hkPi⟩ := Cond.selects_spec hsel
  cases hcls.symm.trans q1
  cases (State.methodFound?_of_named hnamed hy).symm.trans q2
  cases hnamed.symm.trans q3
  have hselP : selectMethod e.platform s.vm cellB.cls mk = .method mk := by rw [Launch.admits_selectMethod X.admits]; exact q4
  obtain ⟨vm₁, X₁, hstep₁⟩ := X.invokevirtual hexec hown hlink hnamed hmethM hstM hkP hkPi hy (a := b) (cell := cellB) hcell
    (fun z h => by rw [h] at hobj; cases hobj) hselP hmethM habM hkP hkPi (g := g) hg (argsL := argsL) (rest := rest) (hlen _ hsigM) hstack hdg
  rcases hK m meth c ⟨T.setVm vm₁, locs, cells, slots⟩ { g with stack := rest } (.invokevirtual index) mk (Value.ref b :: argsL).toArray X₁ hg hsize hdg hW (X₁.named hnamed) (hpre vm₁ X₁.warmed) with ⟨v, B, X', hpost, hsteps⟩ | ⟨q, B, X', hpost, hsteps⟩
  · exact Or.inl ⟨v, vm₁, B, X₁.warmed, X', hpost, fun target h => hstep₁ _ fun acts => by rw [doInvoke_state]; exact hsteps.trans h⟩
  · exact Or.inr ⟨q, vm₁, B, X₁.warmed, X', hpost, hstep₁ _ fun acts => by rw [doInvoke_state]; exact hsteps⟩
theorem vx_callS (X : Stand p l e R s m args below meth c T locs cells slots) (hexec : p.tables.exec = Jvm.exec) {own : String} {index : Nat} {y : MethodName} {bytes : ByteArray} {maxL : Nat} {ret : Option FieldType}
    (hown : s.vm.findClass own = some m.cls) (hlink : (Cond.methodLink own index y).before args s = true) (hstat : (Cond.static y).before args s = true) (hinit : (Cond.initialized y.cls).before args s = true)
    (hcode : (Cond.code y bytes maxL ret).before args s = true) (hy : y.cls ≠ "java/lang/invoke/MethodHandle" ∧ y.cls ≠ "java/lang/invoke/VarHandle")
    {W9 : Nat} {Pre : Pt → Array Value → Prop} {Post : Pt → Array Value → Option Value → Pt → Prop} {PostX : Pt → Array Value → Addr → Pt → Prop} (hK : vx_Back l R p e below s args y 3 W9 Pre Post PostX)
    {g : JFrame} (hg : g.method = m) (hsize : g.locals.size = c.maxLocals) {argsL rest : List Value} (hlen : ∀ sig, parseMethodDescriptor y.desc = some sig → argsL.length = sig.parameters.length)
    (hstack : g.stack = argsL.reverse ++ rest) (hW : 2 * g.monitorRoom + (rest.map fun v => v.category).sum ≤ W9) (hdg : decode c.code g.pc = .ok (.invokestatic index, 3))
    (hpre : ∀ vm₁, s.WarmedH vm₁ → Pre ⟨T.setVm vm₁, locs, cells, slots⟩ argsL.toArray) :
    (∃ (v : Option Value) (vm₁ : Vm) (B : Pt), s.WarmedH vm₁ ∧ Stand p l e R s m args below meth c B.U B.locs B.cells B.slots ∧ Post ⟨T.setVm vm₁, locs, cells, slots⟩ argsL.toArray v B ∧
      ∀ target, Steps p.tables e below (B.U.setTop { g with pc := g.pc + 3, stack := v.toList ++ rest }) target → Steps p.tables e below (T.setTop g) target) ∨
    (∃ (q : Addr) (vm₁ : Vm) (B : Pt), s.WarmedH vm₁ ∧ Stand p l e R s m args below meth c B.U B.locs B.cells B.slots ∧ PostX ⟨T.setVm vm₁, locs, cells, slots⟩ argsL.toArray q B ∧
      Steps p.tables e below (T.setTop g) ((B.U.setTop { g with stack := rest }).pushFrame (.throwing q))) := by
  obtain ⟨mk, hnamed⟩ := Cond.code_named hcode
  obtain ⟨methM, cM, hmethM, -, -, -, -, -, -, hsigM⟩ := Cond.code_spec hnamed hcode
  have hstatic : methM.isStatic = true := Cond.static_spec hnamed hmethM hstat
  obtain ⟨kP, hkP, -⟩ := className_of_methodNamed hnamed
  have hinitP : kP.init = .initialized := Cond.initialized_spec (findClass_of_methodNamed hnamed) hkP hinit
  obtain ⟨vm₁, X₁, hstep₁⟩ := X.invokestatic hexec hown hlink hnamed hmethM hstatic hkP hinitP hy (g := g) hg (argsL := argsL) (rest := rest) (hlen _ hsigM) hstack hdg
  rcases hK m meth c ⟨T.setVm vm₁, locs, cells, slots⟩ { g with stack := rest } (.invokestatic index) mk argsL.toArray X₁ hg hsize hdg hW (X₁.named hnamed) (hpre vm₁ X₁.warmed) with ⟨v, B, X', hpost, hsteps⟩ | ⟨q, B, X', hpost, hsteps⟩
  · exact Or.inl ⟨v, vm₁, B, X₁.warmed, X', hpost, fun target h => hstep₁ _ fun acts => by rw [doInvoke_state]; exact hsteps.trans h⟩
  · exact Or.inr ⟨q, vm₁, B, X₁.warmed, X', hpost, hstep₁ _ fun acts => by rw [doInvoke_state]; exact hsteps⟩
end Calls
theorem vx_cls {s : State} {T : State} {vm₁ : Vm} {E : String} {k : ClassId} (hW : s.WarmedH vm₁) (h : (T.setVm vm₁).vm.findClass E = some k) : s.vm.findClass E = some k := by
  have h1 : vm₁.findClass E = some k := h
  rw [hW.alike.findClass] at h1
  exact h1
/-- the method's frame g, with q thrown over it -/
def vx_W (p : Program) (l : Launch) (e : Env) (R : Room) (s : State) (m : MethodId) (args : Array Value) (below : List Frame) (meth : Method) (c : Code) (H : Heap) (locs : List Loc) (cells slots : Nat) (Q : State → Prop) (g : JFrame) (q : Addr) : Prop :=
  ∀ T : State, T.heap = H → Stand p l e R s m args below meth c T locs cells slots → ∃ t, Steps p.tables e below ((T.setTop g).pushFrame (.throwing q)) t ∧ Q t
def vx_Run (p : Program) (l : Launch) (e : Env) (R : Room) (s : State) (m : MethodId) (args : Array Value) (below : List Frame) (meth : Method) (c : Code) (H : Heap) (locs : List Loc) (cells slots mc ms : Nat) (g : JFrame) (rest : List Value) (Qa : State → Outcome → State → Prop) (XC : String → State → State → Prop) (free : Addr → Prop) : Prop :=
  ∀ T : State, T.heap = H → Stand p l e R s m args below meth c T locs cells slots →
    (∃ (v : Option Value) (st₀ t T' : State) (L : List Loc), st₀.heap = H ∧ Stand p l e R s m args below meth c T' (locs ++ L) (cells + mc) (slots + ms) ∧ (∀ q ∈ L, free q.base) ∧ T'.heap = t.heap ∧ T'.vm = t.vm ∧ Qa st₀ (.returned v) t ∧
      Goes p e below T g T' { g with pc := g.pc + 3, stack := v.toList ++ rest }) ∨
    (∃ (q : Addr) (st₀ t T' : State) (L : List Loc) (E : String) (ce : Cell), st₀.heap = H ∧ Stand p l e R s m args below meth c T' (locs ++ L) (cells + mc) (slots + ms) ∧ (∀ z ∈ L, free z.base) ∧ T'.heap = t.heap ∧ T'.vm = t.vm ∧ XC E st₀ t ∧ t.heap[q]? = some ce ∧ ce.vm = .none ∧ s.vm.findClass E = some ce.cls ∧
      Steps p.tables e below (T.setTop g) ((T'.setTop { g with stack := rest }).pushFrame (.throwing q)))
def vx_X {S : Type} (px : S → Prop) (B : String → S → State → Prop) (A : Nat → Prop) : String → State → State → Prop := fun E st t => ∃ u : S, px u ∧ B E u t ∧ va_F A st t
section Runs
variable {p : Program} {l : Launch} {e : Env} {R : Room} {s : State} {m : MethodId} {args : Array Value} {below : List Frame} {meth : Method} {c : Code} {H : Heap} {locs : List Loc} {cells slots : Nat}
variable {y : MethodName} {bytes cc : ByteArray} {maxL nL mc ms n index : Nat} {ret : Option FieldType} {ws : List Cond} {rm : Room} {Pc : Array Value → State → Prop} {Qc : Array Value → State → Outcome → State → Prop} {XC : String → State → State → Prop} {free : Addr → Prop} {Ts : List Cond} {own C : String} {b : Addr} {As rest : List Value} {g : JFrame}
theorem vx_callBack (cb : CallB R s args own index y bytes maxL ret ws rm mc ms n) (hM : vx_Met l y ws rm Pc Qc XC mc ms free) (hbl : FrameBlind Pc) : vx_Back l R p e below s args y 3 8 (PreOf R mc ms Pc) (PostOf Qc mc ms free) (vx_Post XC mc ms free) := by
  obtain ⟨hrc, hrs, hfr, hlo, hws, hcw, -, hini, -⟩ := cb
  exact vx_back (bytes := bytes) (maxL := maxL) (ret := ret) hM hbl hrc hrs hfr hlo hws hcw (fun a' U hW => word_at hW (Or.inl (by first | rfl | simp [Cond.onTables, Cond.keeps, Cond.steady])) hini)
theorem vx_runV (S : CallFix p m c cc nL s args Ts own) (hM : vx_Met l y ws rm Pc Qc XC mc ms free) (cw : CallW R s args own C index y bytes maxL ret ws rm mc ms n) (hp : PreV s H C b Pc As)
    (hg : g.method = m) (hn : As.length = n) (hsize : g.locals.size = nL) (hstack : g.stack = As.reverse ++ .ref b :: rest) (hW : 2 * g.monitorRoom + (rest.map fun v => v.category).sum ≤ 8) (hdg : decode cc g.pc = .ok (.invokevirtual index, 3)) (hf : cells + mc ≤ R.cells ∧ slots + ms ≤ R.slots) :
    vx_Run p l e R s m args below meth c H locs cells slots mc ms g rest (Qc (Value.ref b :: As).toArray) XC free := by
  have hK : vx_Back l R p e below s args y 3 8 (PreOf R mc ms Pc) (PostOf Qc mc ms free) (vx_Post XC mc ms free) := vx_callBack cw.1 hM hp.1
  obtain ⟨⟨-, -, -, -, -, -, hcode, -, hy, hlen, hl⟩, hin, hse⟩ := cw
  obtain ⟨hx, hb, hml, ho, -⟩ := S
  obtain ⟨-, ⟨cellB, hcB, hoB, hclB⟩, hPc⟩ := hp
  intro T hT X
  rcases vx_callV X hx (C := C) (bytes := bytes) (maxL := maxL) (ret := ret) ho hl hin hse hcode hy hK (by rw [hT]; exact hcB) hoB hclB hg (hsize.trans hml.symm) (argsL := As) (rest := rest) (fun sig h => hn.trans (hlen sig h)) hstack hW (by rw [hb]; exact hdg)
    (fun vm₁ hW₁ => ⟨hf.1, hf.2, hPc (T.setVm vm₁) hT hW₁⟩) with ⟨v, vm₁, ⟨U', l2, c2, s2⟩, hW₁, X', ⟨g', mk, t, L, e1, e2, hq, h1, hL, h2, h3⟩, st⟩ | ⟨q, vm₁, ⟨U', l2, c2, s2⟩, hW₁, X', ⟨g', mk, t, L, E, ce, e1, e2, hq, hce, hcv, hcl, h1, hL, h2, h3⟩, st⟩
  · dsimp only [Pt.U, Pt.locs, Pt.cells, Pt.slots] at X' e1 e2 h1 h2 h3 st
    subst h1; subst h2; subst h3
    exact Or.inl ⟨v, (T.setVm vm₁).calling g' mk (Value.ref b :: As).toArray, t, U', L, hT, X', hL, e1, e2, hq, st⟩
  · dsimp only [Pt.U, Pt.locs, Pt.cells, Pt.slots] at X' e1 e2 h1 h2 h3 st hcl
    subst h1; subst h2; subst h3
    exact Or.inr ⟨q, (T.setVm vm₁).calling g' mk (Value.ref b :: As).toArray, t, U', L, E, ce, hT, X', hL, e1, e2, hq, hce, hcv, vx_cls hW₁ hcl, st⟩
theorem vx_runS (S : CallFix p m c cc nL s args Ts own) (hM : vx_Met l y ws rm Pc Qc XC mc ms free) (cw : CallB R s args own index y bytes maxL ret ws rm mc ms n ∧ (Cond.static y).before args s = true) (hp : PreS s H Pc As)
    (hg : g.method = m) (hn : As.length = n) (hsize : g.locals.size = nL) (hstack : g.stack = As.reverse ++ rest) (hW : 2 * g.monitorRoom + (rest.map fun v => v.category).sum ≤ 8) (hdg : decode cc g.pc = .ok (.invokestatic index, 3)) (hf : cells + mc ≤ R.cells ∧ slots + ms ≤ R.slots) :
    vx_Run p l e R s m args below meth c H locs cells slots mc ms g rest (Qc As.toArray) XC free := by
  have hK : vx_Back l R p e below s args y 3 8 (PreOf R mc ms Pc) (PostOf Qc mc ms free) (vx_Post XC mc ms free) := vx_callBack cw.1 hM hp.1
  obtain ⟨⟨-, -, -, -, -, -, hcode, hini, hy, hlen, hl⟩, hstt⟩ := cw
  obtain ⟨hx, hb, hml, ho, -⟩ := S
  intro T hT X
  rcases vx_callS X hx (bytes := bytes) (maxL := maxL) (ret := ret) ho hl hstt hini hcode hy hK hg (hsize.trans hml.symm) (argsL := As) (rest := rest) (fun sig h => hn.trans (hlen sig h)) hstack hW (by rw [hb]; exact hdg)
    (fun vm₁ hW₁ => ⟨hf.1, hf.2, hp.2 (T.setVm vm₁) hT hW₁⟩) with ⟨v, vm₁, ⟨U', l2, c2, s2⟩, hW₁, X', ⟨g', mk, t, L, e1, e2, hq, h1, hL, h2, h3⟩, st⟩ | ⟨q, vm₁, ⟨U', l2, c2, s2⟩, hW₁, X', ⟨g', mk, t, L, E, ce, e1, e2, hq, hce, hcv, hcl, h1, hL, h2, h3⟩, st⟩
  · dsimp only [Pt.U, Pt.locs, Pt.cells, Pt.slots] at X' e1 e2 h1 h2 h3 st
    subst h1; subst h2; subst h3
    exact Or.inl ⟨v, (T.setVm vm₁).calling g' mk As.toArray, t, U', L, hT, X', hL, e1, e2, hq, st⟩
  · dsimp only [Pt.U, Pt.locs, Pt.cells, Pt.slots] at X' e1 e2 h1 h2 h3 st hcl
    subst h1; subst h2; subst h3
    exact Or.inr ⟨q, (T.setVm vm₁).calling g' mk As.toArray, t, U', L, E, ce, hT, X', hL, e1, e2, hq, hce, hcv, vx_cls hW₁ hcl, st⟩
end Runs
section Rows
variable {p : Program} {l : Launch} {e : Env} {R : Room} {s : State} {m : MethodId} {args : Array Value} {below : List Frame} {meth : Method} {c : Code} {H : Heap} {locs : List Loc} {cells slots : Nat} {Q : State → Prop}
variable {mc ms : Nat} {free : Addr → Prop} {A0 A1 : Nat → Prop} {H0 : Heap} {a : Array Value} {pc : Nat} {ls : Array Slot} {st0 rest : List Value}
theorem vx_keep {st₀ t T' : State} {L : List Loc} (h0 : st₀.heap = H) (e1 : T'.heap = t.heap) (hS : va_S A0 H0 H locs) (hA : ∀ q, q < H.size → A1 q → A0 q) (hf : ∀ q, free q → A0 q) (hL : ∀ q ∈ L, free q.base) (hF : va_F A1 st₀ t) :
    H.size ≤ T'.heap.size ∧ (∀ q : Nat, q < H.size → ¬ A1 q → T'.heap[q]? = H[q]?) ∧ va_S A0 H0 T'.heap (locs ++ L) := by
  obtain ⟨hz, hk⟩ := hF
  rw [h0] at hz hk
  exact ⟨by rw [e1]; exact hz, fun q h1 h2 => by rw [e1]; exact hk q h1 h2,
    ⟨Nat.le_trans hS.1 (by rw [e1]; exact hz), fun q h1 h2 => by rw [e1, hk q (Nat.lt_of_lt_of_le h1 hS.1) (fun z => h2 (hA q (Nat.lt_of_lt_of_le h1 hS.1) z))]; exact hS.2.1 q h1 h2, fun q hq => by
      rcases List.mem_append.mp hq with h | h
      · exact hS.2.2 q h
      · exact hf _ (hL q h)⟩⟩
theorem vx_calli {S SX : Type} {post : Int32 → S → Prop} {px : SX → Prop} {B : S → State → Prop} {BX : String → SX → State → Prop} {AX : Nat → Prop} (hr : vx_Run p l e R s m args below meth c H locs cells slots mc ms (F0 m pc ls st0) rest (va_Qi post B A1 a) (vx_X px BX AX) free) (hS : va_S A0 H0 H locs) (hA : ∀ q, q < H.size → A1 q → A0 q) (hf : ∀ q, free q → A0 q) (hAX : ∀ q, q < H.size → AX q → A0 q)
    (kx : ∀ (E : String) (ce : Cell) (q9 : Addr) (u : SX) (t : State) (H1 : Heap) (locs1 : List Loc), t.heap = H1 → s.vm.Alike t.vm → px u → BX E u t → H.size ≤ H1.size → (∀ q : Nat, q < H.size → ¬ AX q → H1[q]? = H[q]?) → va_S A0 H0 H1 locs1 → H1[q9]? = some ce → ce.vm = .none → s.vm.findClass E = some ce.cls → vx_W p l e R s m args below meth c H1 locs1 (cells + mc) (slots + ms) Q (F0 m pc ls rest) q9)
    (kk : ∀ (r : Int32) (u : S) (t : State) (H1 : Heap) (locs1 : List Loc), t.heap = H1 → s.vm.Alike t.vm → post r u → B u t → H.size ≤ H1.size → (∀ q : Nat, q < H.size → ¬ A1 q → H1[q]? = H[q]?) → va_S A0 H0 H1 locs1 → W p l e R s m args below meth c H1 locs1 (cells + mc) (slots + ms) Q (F0 m (pc + 3) ls (.int r :: rest))) : W p l e R s m args below meth c H locs cells slots Q (F0 m pc ls st0) := by
  intro T hT X
  rcases hr T hT X with ⟨v, st₀, t, T', L, h0, X', hL, e1, e2, ⟨⟨r, u, hv, hp, hb⟩, hF⟩, st⟩ | ⟨q, st₀, t, T', L, E, ce, h0, X', hL, e1, e2, ⟨u, hp, hb, hF⟩, hce, hcv, hcl, st⟩
  · cases hv
    obtain ⟨k1, k2, k3⟩ := vx_keep h0 e1 hS hA hf hL hF
    obtain ⟨t2, a1, b1⟩ := kk r u t T'.heap (locs ++ L) e1.symm (by rw [← e2]; exact X'.warmed.alike) hp hb k1 k2 k3 T' rfl X'
    exact ⟨t2, st t2 a1, b1⟩
  · obtain ⟨k1, k2, k3⟩ := vx_keep h0 e1 hS hAX hf hL hF
    obtain ⟨t2, a1, b1⟩ := kx E ce q u t T'.heap (locs ++ L) e1.symm (by rw [← e2]; exact X'.warmed.alike) hp hb k1 k2 k3 (by rw [e1]; exact hce) hcv hcl T' rfl X'
    exact ⟨t2, st.trans a1, b1⟩
theorem vx_calll {S SX : Type} {post : Int64 → S → Prop} {px : SX → Prop} {B : S → State → Prop} {BX : String → SX → State → Prop} {AX : Nat → Prop} (hr : vx_Run p l e R s m args below meth c H locs cells slots mc ms (F0 m pc ls st0) rest (va_Ql post B A1 a) (vx_X px BX AX) free) (hS : va_S A0 H0 H locs) (hA : ∀ q, q < H.size → A1 q → A0 q) (hf : ∀ q, free q → A0 q) (hAX : ∀ q, q < H.size → AX q → A0 q)
    (kx : ∀ (E : String) (ce : Cell) (q9 : Addr) (u : SX) (t : State) (H1 : Heap) (locs1 : List Loc), t.heap = H1 → s.vm.Alike t.vm → px u → BX E u t → H.size ≤ H1.size → (∀ q : Nat, q < H.size → ¬ AX q → H1[q]? = H[q]?) → va_S A0 H0 H1 locs1 → H1[q9]? = some ce → ce.vm = .none → s.vm.findClass E = some ce.cls → vx_W p l e R s m args below meth c H1 locs1 (cells + mc) (slots + ms) Q (F0 m pc ls rest) q9)
    (kk : ∀ (r : Int64) (u : S) (t : State) (H1 : Heap) (locs1 : List Loc), t.heap = H1 → s.vm.Alike t.vm → post r u → B u t → H.size ≤ H1.size → (∀ q : Nat, q < H.size → ¬ A1 q → H1[q]? = H[q]?) → va_S A0 H0 H1 locs1 → W p l e R s m args below meth c H1 locs1 (cells + mc) (slots + ms) Q (F0 m (pc + 3) ls (.long r :: rest))) : W p l e R s m args below meth c H locs cells slots Q (F0 m pc ls st0) := by
  intro T hT X
  rcases hr T hT X with ⟨v, st₀, t, T', L, h0, X', hL, e1, e2, ⟨⟨r, u, hv, hp, hb⟩, hF⟩, st⟩ | ⟨q, st₀, t, T', L, E, ce, h0, X', hL, e1, e2, ⟨u, hp, hb, hF⟩, hce, hcv, hcl, st⟩
  · cases hv
    obtain ⟨k1, k2, k3⟩ := vx_keep h0 e1 hS hA hf hL hF
    obtain ⟨t2, a1, b1⟩ := kk r u t T'.heap (locs ++ L) e1.symm (by rw [← e2]; exact X'.warmed.alike) hp hb k1 k2 k3 T' rfl X'
    exact ⟨t2, st t2 a1, b1⟩
  · obtain ⟨k1, k2, k3⟩ := vx_keep h0 e1 hS hAX hf hL hF
    obtain ⟨t2, a1, b1⟩ := kx E ce q u t T'.heap (locs ++ L) e1.symm (by rw [← e2]; exact X'.warmed.alike) hp hb k1 k2 k3 (by rw [e1]; exact hce) hcv hcl T' rfl X'
    exact ⟨t2, st.trans a1, b1⟩
theorem vx_callf {S SX : Type} {post : UInt32 → S → Prop} {px : SX → Prop} {B : S → State → Prop} {BX : String → SX → State → Prop} {AX : Nat → Prop} (hr : vx_Run p l e R s m args below meth c H locs cells slots mc ms (F0 m pc ls st0) rest (va_Qf post B A1 a) (vx_X px BX AX) free) (hS : va_S A0 H0 H locs) (hA : ∀ q, q < H.size → A1 q → A0 q) (hf : ∀ q, free q → A0 q) (hAX : ∀ q, q < H.size → AX q → A0 q)
    (kx : ∀ (E : String) (ce : Cell) (q9 : Addr) (u : SX) (t : State) (H1 : Heap) (locs1 : List Loc), t.heap = H1 → s.vm.Alike t.vm → px u → BX E u t → H.size ≤ H1.size → (∀ q : Nat, q < H.size → ¬ AX q → H1[q]? = H[q]?) → va_S A0 H0 H1 locs1 → H1[q9]? = some ce → ce.vm = .none → s.vm.findClass E = some ce.cls → vx_W p l e R s m args below meth c H1 locs1 (cells + mc) (slots + ms) Q (F0 m pc ls rest) q9)
    (kk : ∀ (r : UInt32) (u : S) (t : State) (H1 : Heap) (locs1 : List Loc), t.heap = H1 → s.vm.Alike t.vm → post r u → B u t → H.size ≤ H1.size → (∀ q : Nat, q < H.size → ¬ A1 q → H1[q]? = H[q]?) → va_S A0 H0 H1 locs1 → W p l e R s m args below meth c H1 locs1 (cells + mc) (slots + ms) Q (F0 m (pc + 3) ls (.float r :: rest))) : W p l e R s m args below meth c H locs cells slots Q (F0 m pc ls st0) := by
  intro T hT X
  rcases hr T hT X with ⟨v, st₀, t, T', L, h0, X', hL, e1, e2, ⟨⟨r, u, hv, hp, hb⟩, hF⟩, st⟩ | ⟨q, st₀, t, T', L, E, ce, h0, X', hL, e1, e2, ⟨u, hp, hb, hF⟩, hce, hcv, hcl, st⟩
  · cases hv
    obtain ⟨k1, k2, k3⟩ := vx_keep h0 e1 hS hA hf hL hF
    obtain ⟨t2, a1, b1⟩ := kk r u t T'.heap (locs ++ L) e1.symm (by rw [← e2]; exact X'.warmed.alike) hp hb k1 k2 k3 T' rfl X'
    exact ⟨t2, st t2 a1, b1⟩
  · obtain ⟨k1, k2, k3⟩ := vx_keep h0 e1 hS hAX hf hL hF
    obtain ⟨t2, a1, b1⟩ := kx E ce q u t T'.heap (locs ++ L) e1.symm (by rw [← e2]; exact X'.warmed.alike) hp hb k1 k2 k3 (by rw [e1]; exact hce) hcv hcl T' rfl X'
    exact ⟨t2, st.trans a1, b1⟩
theorem vx_calld {S SX : Type} {post : UInt64 → S → Prop} {px : SX → Prop} {B : S → State → Prop} {BX : String → SX → State → Prop} {AX : Nat → Prop} (hr : vx_Run p l e R s m args below meth c H locs cells slots mc ms (F0 m pc ls st0) rest (va_Qd post B A1 a) (vx_X px BX AX) free) (hS : va_S A0 H0 H locs) (hA : ∀ q, q < H.size → A1 q → A0 q) (hf : ∀ q, free q → A0 q) (hAX : ∀ q, q < H.size → AX q → A0 q)
    (kx : ∀ (E : String) (ce : Cell) (q9 : Addr) (u : SX) (t : State) (H1 : Heap) (locs1 : List Loc), t.heap = H1 → s.vm.Alike t.vm → px u → BX E u t → H.size ≤ H1.size → (∀ q : Nat, q < H.size → ¬ AX q → H1[q]? = H[q]?) → va_S A0 H0 H1 locs1 → H1[q9]? = some ce → ce.vm = .none → s.vm.findClass E = some ce.cls → vx_W p l e R s m args below meth c H1 locs1 (cells + mc) (slots + ms) Q (F0 m pc ls rest) q9)
    (kk : ∀ (r : UInt64) (u : S) (t : State) (H1 : Heap) (locs1 : List Loc), t.heap = H1 → s.vm.Alike t.vm → post r u → B u t → H.size ≤ H1.size → (∀ q : Nat, q < H.size → ¬ A1 q → H1[q]? = H[q]?) → va_S A0 H0 H1 locs1 → W p l e R s m args below meth c H1 locs1 (cells + mc) (slots + ms) Q (F0 m (pc + 3) ls (.double r :: rest))) : W p l e R s m args below meth c H locs cells slots Q (F0 m pc ls st0) := by
  intro T hT X
  rcases hr T hT X with ⟨v, st₀, t, T', L, h0, X', hL, e1, e2, ⟨⟨r, u, hv, hp, hb⟩, hF⟩, st⟩ | ⟨q, st₀, t, T', L, E, ce, h0, X', hL, e1, e2, ⟨u, hp, hb, hF⟩, hce, hcv, hcl, st⟩
  · cases hv
    obtain ⟨k1, k2, k3⟩ := vx_keep h0 e1 hS hA hf hL hF
    obtain ⟨t2, a1, b1⟩ := kk r u t T'.heap (locs ++ L) e1.symm (by rw [← e2]; exact X'.warmed.alike) hp hb k1 k2 k3 T' rfl X'
    exact ⟨t2, st t2 a1, b1⟩
  · obtain ⟨k1, k2, k3⟩ := vx_keep h0 e1 hS hAX hf hL hF
    obtain ⟨t2, a1, b1⟩ := kx E ce q u t T'.heap (locs ++ L) e1.symm (by rw [← e2]; exact X'.warmed.alike) hp hb k1 k2 k3 (by rw [e1]; exact hce) hcv hcl T' rfl X'
    exact ⟨t2, st.trans a1, b1⟩
theorem vx_callv {S SX : Type} {post : S → Prop} {px : SX → Prop} {B : S → State → Prop} {BX : String → SX → State → Prop} {AX : Nat → Prop} (hr : vx_Run p l e R s m args below meth c H locs cells slots mc ms (F0 m pc ls st0) rest (va_Qv post B A1 a) (vx_X px BX AX) free) (hS : va_S A0 H0 H locs) (hA : ∀ q, q < H.size → A1 q → A0 q) (hf : ∀ q, free q → A0 q) (hAX : ∀ q, q < H.size → AX q → A0 q)
    (kx : ∀ (E : String) (ce : Cell) (q9 : Addr) (u : SX) (t : State) (H1 : Heap) (locs1 : List Loc), t.heap = H1 → s.vm.Alike t.vm → px u → BX E u t → H.size ≤ H1.size → (∀ q : Nat, q < H.size → ¬ AX q → H1[q]? = H[q]?) → va_S A0 H0 H1 locs1 → H1[q9]? = some ce → ce.vm = .none → s.vm.findClass E = some ce.cls → vx_W p l e R s m args below meth c H1 locs1 (cells + mc) (slots + ms) Q (F0 m pc ls rest) q9)
    (kk : ∀ (u : S) (t : State) (H1 : Heap) (locs1 : List Loc), t.heap = H1 → s.vm.Alike t.vm → post u → B u t → H.size ≤ H1.size → (∀ q : Nat, q < H.size → ¬ A1 q → H1[q]? = H[q]?) → va_S A0 H0 H1 locs1 → W p l e R s m args below meth c H1 locs1 (cells + mc) (slots + ms) Q (F0 m (pc + 3) ls (rest))) : W p l e R s m args below meth c H locs cells slots Q (F0 m pc ls st0) := by
  intro T hT X
  rcases hr T hT X with ⟨v, st₀, t, T', L, h0, X', hL, e1, e2, ⟨⟨u, hv, hp, hb⟩, hF⟩, st⟩ | ⟨q, st₀, t, T', L, E, ce, h0, X', hL, e1, e2, ⟨u, hp, hb, hF⟩, hce, hcv, hcl, st⟩
  · cases hv
    obtain ⟨k1, k2, k3⟩ := vx_keep h0 e1 hS hA hf hL hF
    obtain ⟨t2, a1, b1⟩ := kk u t T'.heap (locs ++ L) e1.symm (by rw [← e2]; exact X'.warmed.alike) hp hb k1 k2 k3 T' rfl X'
    exact ⟨t2, st t2 a1, b1⟩
  · obtain ⟨k1, k2, k3⟩ := vx_keep h0 e1 hS hAX hf hL hF
    obtain ⟨t2, a1, b1⟩ := kx E ce q u t T'.heap (locs ++ L) e1.symm (by rw [← e2]; exact X'.warmed.alike) hp hb k1 k2 k3 (by rw [e1]; exact hce) hcv hcl T' rfl X'
    exact ⟨t2, st.trans a1, b1⟩
/-- caught by the row x of this method's table; the rows ahead don't take it -/
theorem vx_catch {own name : String} {E : String} {ce : Cell} {q : Addr} (hown : s.vm.findClass own = some m.cls) (pre : List ExceptionTableEntry) (x : ExceptionTableEntry) (suf : List ExceptionTableEntry) (hsplit : c.exceptionTable.toList = pre ++ x :: suf)
    (hpass : ∀ z ∈ pre, covers z pc = false ∨ (z.catchType ≠ 0 ∧ ∃ nm : String, (Cond.classLink own z.catchType nm).before args s = true ∧ va_Nc E nm s)) (hx : covers x pc = true) (h0 : x.catchType ≠ 0)
    (hlink : (Cond.classLink own x.catchType name).before args s = true) (hcast : (Cond.castable E name).before args s = true) (hcell : H[q]? = some ce) (hv : ce.vm = .none) (hcl : s.vm.findClass E = some ce.cls)
    (kk : W p l e R s m args below meth c H locs cells slots Q (F0 m x.handlerPc ls [.ref q])) : vx_W p l e R s m args below meth c H locs cells slots Q (F0 m pc ls rest) q := by
  intro T hT X
  have hpl : e.platform.magicAccessors = ({} : Platform).magicAccessors := by rw [X.admits.platform]
  obtain ⟨c3, c4, hc3, hc4, hasg⟩ := Cond.castable_spec hcast
  cases Option.some.inj (hc3.symm.trans hcl)
  obtain ⟨c5, hc5, hcl5⟩ := Cond.classLink_spec hown hlink e.platform hpl
  cases Option.some.inj (hc4.symm.trans hc5)
  obtain ⟨vm', X', st⟩ := X.thenCaughtThrough q (g := F0 m pc ls rest) rfl (Steps.refl _) (by rw [hT]; exact hcell) (by rw [hv]; rfl) (by obtain ⟨k9, h9, -⟩ := Vm.findClass_spec hcl; exact ⟨k9, h9⟩) pre x suf hsplit
    (fun z hz => by
      rcases hpass z hz with h | ⟨hz0, nm, hl1, hn1⟩
      · exact Or.inl h
      · obtain ⟨c6, hc6, hcl6⟩ := Cond.classLink_spec hown hl1 e.platform hpl
        obtain ⟨a8, b8, h1, h2, h3⟩ := hn1
        cases Option.some.inj (h1.symm.trans hcl)
        cases Option.some.inj (h2.symm.trans hc6)
        exact Or.inr ⟨hz0, _, hcl6, h3⟩) hx (Or.inr ⟨h0, c4, hcl5, hasg⟩)
  obtain ⟨t, a1, b1⟩ := kk (T.setVm vm') hT X'
  exact ⟨t, st.trans a1, b1⟩
end Rows
section Ends
variable {p : Program} {l : Launch} {e : Env} {R : Room} {s : State} {m : MethodId} {args : Array Value} {below : List Frame} {meth : Method} {c : Code} {H : Heap} {locs : List Loc} {cells slots : Nat} {Q : State → Prop}
variable {mc ms : Nat} {free : Addr → Prop} {A0 A1 : Nat → Prop} {H0 : Heap} {a : Array Value} {ls : Array Slot} {st0 rest : List Value}
variable {Qc : Array Value → State → Outcome → State → Prop} {XC : String → State → State → Prop}
/-- what a body that may throw owes at its end -/
def vx_MQ (below : List Frame) (Qc : Array Value → State → Outcome → State → Prop) (XC : String → State → State → Prop) (a : Array Value) (s : State) (mc ms : Nat) (free : Addr → Prop) : State → Prop := fun t =>
  ∃ o, t.status = .running ∧ Ended t below o ∧ vx_Q Qc XC mc ms free a s o t
theorem vx_ret {g : JFrame} {mc ms : Nat} (k : W p l e R s m args below meth c H locs cells slots (MQ below Qc args s mc ms free) g) : W p l e R s m args below meth c H locs cells slots (vx_MQ below Qc XC args s mc ms free) g := by
  intro T hT X
  obtain ⟨t, a1, o, b1, b2, b3, b4⟩ := k T hT X
  exact ⟨t, a1, o, b1, b2, Or.inl ⟨b3, b4⟩⟩
/-- not caught here: it goes on to the caller -/
theorem vx_widen {g : JFrame} {q : Addr} {k n : Nat} (h1 : cells ≤ k) (h2 : slots ≤ n) (kk : vx_W p l e R s m args below meth c H locs k n Q g q) : vx_W p l e R s m args below meth c H locs cells slots Q g q := fun T hT X => kk T hT (stand_widen X h1 h2)
theorem vx_out {pc : Nat} {E : String} {ce : Cell} {q : Addr} {mc ms : Nat} (hout : ∀ x ∈ c.exceptionTable.toList, covers x pc = false) (hlocks : meth.locks = false) (hcell : H[q]? = some ce) (hv : ce.vm = .none) (hcl : s.vm.findClass E = some ce.cls)
    (hx : ∀ t : State, t.heap = H → s.vm.Alike t.vm → XC E s t) (hf : ∀ z ∈ locs, free z.base) (hc : cells ≤ mc) (hs : slots ≤ ms) :
    vx_W p l e R s m args below meth c H locs cells slots (vx_MQ below Qc XC args s mc ms free) (F0 m pc ls rest) q := by
  intro T hT X
  obtain ⟨st1, hrun, hend, hW, hsm⟩ := X.leaveThrown q (g := F0 m pc ls rest) rfl rfl rfl hout hlocks
  have hcell9 : (T.setFrames (.throwing q :: below)).heap[q]? = some ce := by
    show T.heap[q]? = some ce
    rw [hT]; exact hcell
  exact ⟨_, st1, .threw q, hrun, hend, Or.inr ⟨q, rfl, E, ce, locs, hx _ hT hW.alike, hcell9, hv, hcl, hW, hsm.mono hc hs, hf⟩⟩
theorem vx_frame {U : State} {k n : Nat} (h : s.sameButNew ({ U with vm := s.vm } : State) locs k n) : s.heap.size ≤ U.heap.size ∧ ∀ q : Nat, q < s.heap.size → (∀ z ∈ locs, z.base ≠ q) → U.heap[q]? = s.heap[q]? := by
  obtain ⟨-, h2, -, -, -, h6⟩ := h
  refine ⟨h2, fun q hq hz => ?_⟩
  obtain ⟨c9, e1, e2, e3, e4⟩ := h6 q _ (Array.getElem?_eq_getElem hq)
  have hs : c9.slots = (s.heap[q]).slots := Array.ext_getElem? fun i => e4 i fun hm => hz _ hm rfl
  have h9 : c9 = s.heap[q] := by
    rw [hs] at e2
    exact e2
  have e5 : U.heap[q]? = some c9 := e1
  rw [e5, h9, Array.getElem?_eq_getElem hq]
/-- the words of a throw but the four that speak of the heap -/
def vx_no (w : Cond) : Bool := decide (w ≠ .isRef (.static Bundle.tN "UNASSIGNED_STACK" Bundle.steD)) && decide (w ≠ .isRef (.static Bundle.tN "SUPPRESSED_SENTINEL" Bundle.listD)) && decide (w ≠ .laysStatic Bundle.tN "UNASSIGNED_STACK" Bundle.steD) && decide (w ≠ .laysStatic Bundle.tN "SUPPRESSED_SENTINEL" Bundle.listD)
def vx_at0 (own : String) (ic : Nat) (X : String) (names : List String) : List Cond := (Bundle.ownAtoms0 own ic X names).filter vx_no
def vx_atS (own : String) (ic : Nat) (X : String) (names : List String) : List Cond := (Bundle.ownAtoms own ic X names).filter vx_no
/-- a word that the tables alone decide, or a good one -/
def vx_ot (w : Cond) : Bool := w.onTables || goodWord w
theorem vx_ot_at {args a' : Array Value} {s U : State} {w : Cond} (hW : s.WarmedH U.vm) (hvm : s.vm = U.vm) (hg : vx_ot w = true) (h : w.before args s = true) : w.before a' U = true := by
  simp only [vx_ot, Bool.or_eq_true] at hg
  rcases hg with hg | hg
  · exact va_tabs hg hvm h
  · exact word_at hW (good_of_word hg) h
/-- a list's words: the good ones out of the method's own list, the others by premises of their own -/
theorem vx_hat {args : Array Value} {s : State} {L B : List Cond} (h1 : ∀ w ∈ L.filter goodWord, w.before args s = true) (h2 : ∀ w ∈ L.filter (fun w => !goodWord w), w ∈ B) (h3 : ∀ w ∈ B, w.before args s = true) : ∀ w ∈ L, w.before args s = true := by
  intro w hw
  by_cases g : goodWord w = true
  · exact h1 w (List.mem_filter.mpr ⟨hw, g⟩)
  · refine h3 w (h2 w (List.mem_filter.mpr ⟨hw, ?_⟩))
    show (!goodWord w) = true
    cases hgw : goodWord w
    · rfl
    · exact absurd hgw g
theorem vx_c {args : Array Value} {s : State} {w : Cond} {B : List Cond} (h : w.before args s = true) (t : ∀ w ∈ B, w.before args s = true) : ∀ w' ∈ w :: B, w'.before args s = true := fun w' h' => (List.mem_cons.mp h').elim (fun e => by rw [e]; exact h) (t w')
theorem vx_n {args : Array Value} {s : State} : ∀ w ∈ ([] : List Cond), w.before args s = true := fun _ h => nomatch h
theorem vx_own {args : Array Value} {s : State} {L : List Cond} (h1 : ∀ w ∈ L.filter vx_no, w.before args s = true)
    (hU : (Cond.isRef (.static Bundle.tN "UNASSIGNED_STACK" Bundle.steD)).before args s = true) (hN : (Cond.isRef (.static Bundle.tN "SUPPRESSED_SENTINEL" Bundle.listD)).before args s = true)
    (lU : (Cond.laysStatic Bundle.tN "UNASSIGNED_STACK" Bundle.steD).before args s = true) (lN : (Cond.laysStatic Bundle.tN "SUPPRESSED_SENTINEL" Bundle.listD).before args s = true) : ∀ w ∈ L, w.before args s = true := by
  intro w hw
  by_cases e1 : w = .isRef (.static Bundle.tN "UNASSIGNED_STACK" Bundle.steD)
  · rw [e1]; exact hU
  · by_cases e2 : w = .isRef (.static Bundle.tN "SUPPRESSED_SENTINEL" Bundle.listD)
    · rw [e2]; exact hN
    · by_cases e3 : w = .laysStatic Bundle.tN "UNASSIGNED_STACK" Bundle.steD
      · rw [e3]; exact lU
      · by_cases e4 : w = .laysStatic Bundle.tN "SUPPRESSED_SENTINEL" Bundle.listD
        · rw [e4]; exact lN
        · exact h1 w (List.mem_filter.mpr ⟨hw, by unfold vx_no; rw [decide_eq_true e1, decide_eq_true e2, decide_eq_true e3, decide_eq_true e4]; rfl⟩)
/-- where a static field lies, its class's statics cell in H -/
def vx_L (C n d : String) (A : Nat → Prop) (U : State) (H : Heap) : Prop := ∃ (c : ClassId) (k : Class) (i : Nat) (f : Field) (a : Nat) (cell : Cell), U.vm.findClass C = some c ∧ U.fieldFound? C n d = some (c, k, i, f) ∧ f.isStatic = true ∧ k.statics = some a ∧ H[a]? = some cell ∧ cell.vm.isStatics = true ∧ cell.cls = c ∧ f.slot < cell.slots.size ∧ k.staticTypes[f.slot]? = some f.type ∧ ¬ A a
theorem vx_L.moved {C n d : String} {A : Nat → Prop} {u U : State} {H : Heap} (hvm : u.vm.Alike U.vm) (h : vx_L C n d A u H) : vx_L C n d A U H := by
  obtain ⟨c, k, i, f, a, cell, h1, h2, h3, h4, h5, h6, h7, h8, h9, h10⟩ := h
  obtain ⟨k', hi', he⟩ := State.fieldFound?_setVm hvm h2
  exact ⟨c, k', i, f, a, cell, by rw [hvm.findClass]; exact h1, hi', h3, by rw [he]; exact h4, h5, h6, h7, h8, by rw [he]; exact h9, h10⟩
theorem vx_L.kept {C n d : String} {A : Nat → Prop} {U : State} {H H1 : Heap} (h : vx_L C n d A U H) (hq : ∀ a : Nat, a < H.size → ¬ A a → H1[a]? = H[a]?) : vx_L C n d A U H1 := by
  obtain ⟨c, k, i, f, a, cell, h1, h2, h3, h4, h5, h6, h7, h8, h9, h10⟩ := h
  exact ⟨c, k, i, f, a, cell, h1, h2, h3, h4, by rw [hq a (Array.getElem?_eq_some_iff.mp h5).1 h10]; exact h5, h6, h7, h8, h9, h10⟩
theorem vx_L.narrow {C n d : String} {A B : Nat → Prop} {U : State} {H : Heap} (h : vx_L C n d A U H) (hAB : ∀ q, B q → A q) : vx_L C n d B U H := by
  obtain ⟨c, k, i, f, a, cell, h1, h2, h3, h4, h5, h6, h7, h8, h9, h10⟩ := h
  exact ⟨c, k, i, f, a, cell, h1, h2, h3, h4, h5, h6, h7, h8, h9, fun z => h10 (hAB _ z)⟩
theorem vx_L.word {C n d : String} {A : Nat → Prop} {s : State} {args : Array Value} (h : vx_L C n d A s s.heap) : (Cond.laysStatic C n d).before args s = true := by
  obtain ⟨c, k, i, f, a, cell, h1, h2, h3, h4, h5, h6, h7, h8, h9, -⟩ := h
  show (Cond.laysStatic C n d).holds args s none s [] = true
  exact Cond.laysStatic_of h1 h2 h3 h4 h5 h6 h7 h8 h9
/-- .. and what it holds: null or some reference -/
def vx_Zq (C n d : String) (A : Nat → Prop) (U : State) (H : Heap) : Prop := va_Zq C n d A U H ∧ vx_L C n d A U H
theorem vx_Zq.moved {C n d : String} {A : Nat → Prop} {u U : State} {H : Heap} (hvm : u.vm.Alike U.vm) (h : vx_Zq C n d A u H) : vx_Zq C n d A U H := ⟨va_Zq.moved hvm h.1, vx_L.moved hvm h.2⟩
theorem vx_Zq.kept {C n d : String} {A : Nat → Prop} {U : State} {H H1 : Heap} (h : vx_Zq C n d A U H) (hq : ∀ a : Nat, a < H.size → ¬ A a → H1[a]? = H[a]?) : vx_Zq C n d A U H1 := ⟨va_Zq.kept h.1 hq, vx_L.kept h.2 hq⟩
theorem vx_Zq.narrow {C n d : String} {A B : Nat → Prop} {U : State} {H : Heap} (h : vx_Zq C n d A U H) (hAB : ∀ q, B q → A q) : vx_Zq C n d B U H := ⟨va_Zq.narrow h.1 hAB, vx_L.narrow h.2 hAB⟩
theorem vx_Zqof {args : Array Value} {s : State} {C n d : String} {A : Nat → Prop} (hl : (Cond.laysStatic C n d).before args s = true) (hini : (Cond.initialized C).before args s = true) (h : (Cond.isRef (.static C n d)).before args s = true) (hA : ∀ a : Nat, a < s.heap.size → ¬ A a) : vx_Zq C n d A s s.heap := by
  refine ⟨va_Zqof hl hini h hA, ?_⟩
  obtain ⟨c, k, i, f, a, cell, h1, h2, h3, h4, h5, h6, h7, h8, h9⟩ := Cond.laysStatic_spec hl
  exact ⟨c, k, i, f, a, cell, h1, h2, h3, h4, h5, h6, h7, h8, h9, hA a (Array.getElem?_eq_some_iff.mp h5).1⟩
theorem vx_isRef {C n d : String} {v : Value} {A : Nat → Prop} {s : State} {args : Array Value} (h : va_Z C n d v A s s.heap) (hv : v.isRef = true) : (Cond.isRef (.static C n d)).before args s = true := by
  obtain ⟨cf, kf, fi, f, a, cell, h1, h2, h3, h4, h5, h6, h7, -⟩ := h
  have he : (Term.static C n d).eval args s none [] s = some v := by
    simp [Term.eval, State.fieldNamed?, h1, h2, h4, h5, h6, h7]
  simp only [Cond.before, Cond.holds, Cond.value, he]
  cases v <;> simp_all [Value.isRef]
theorem vx_isRefq {C n d : String} {A : Nat → Prop} {s : State} {args : Array Value} (h : va_Zq C n d A s s.heap) : (Cond.isRef (.static C n d)).before args s = true := by
  rcases h with h | ⟨t, h⟩
  · exact vx_isRef h rfl
  · exact vx_isRef h rfl
/-- the same frame, seen from here: as if the method were called anew in this heap -/
theorem vx_rebase {T : State} (X : Stand p l e R s m args below meth c T locs cells slots) {R' : Room} (hf : R'.frames ≤ R.frames) (hl : R'.locals ≤ R.locals) (hc : cells + R'.cells ≤ R.cells) (hs : slots + R'.slots ≤ R.slots) :
    Stand p l e R' ((T.setVm s.vm).setFrames (.invoking m args :: below)) m args below meth c T [] 0 0 := by
  have htop : (T.setVm s.vm).topJava?.isSome := X.here.top
  have hF : ((T.setVm s.vm).setFrames (.invoking m args :: below)).frames = .invoking m args :: below := State.frames_setFrames _ (State.cur_lt_of_top htop)
  obtain ⟨g₀, hg0⟩ := Option.isSome_iff_exists.mp htop
  obtain ⟨r, hr⟩ := State.topJava?_eq_some.mp hg0
  have hl9 : e.platform.stackLimits (T.setVm s.vm).me = e.platform.stackLimits s.me := X.limits
  have hb9 : (T.setVm s.vm).me.stackBytes = s.me.stackBytes := X.bytes
  refine ⟨X.admits, X.cas, X.clock, hF, ?_, X.hears, X.method, X.code, X.here, X.tail, X.warmed, ?_, ?_, ?_⟩
  · have h := X.room
    have hU : ((T.setVm s.vm).setFrames (.invoking m args :: below)).localsInUse = s.localsInUse := by
      rw [State.localsInUse_invoking hF (meth := meth) (c := c) X.method X.code, State.localsInUse_invoking X.frames X.method X.code]
    simp only [State.hasRoom, Bool.and_eq_true, decide_eq_true_eq] at h ⊢
    obtain ⟨⟨⟨⟨h1, h2, h3, h4, h5, h6⟩, h7⟩, h8⟩, h9⟩ := h
    rw [X.frames, List.length_cons] at h2 h3
    have q1 := X.heapSize
    have q2 := X.used
    simp only [hF, hU, List.length_cons, State.stackLimits_setFrames, State.stackBytes_setFrames, hl9, hb9]
    refine ⟨⟨⟨⟨by omega, by omega, by omega, by omega, by omega, h6⟩, ?_⟩, ?_⟩, X.book⟩
    · show T.heap.size + R'.cells ≤ e.platform.maxCells
      omega
    · show T.slotsUsed + R'.slots ≤ e.platform.maxSlots
      omega
  · rw [State.stackLimits_setFrames]; rfl
  · rw [State.stackBytes_setFrames]; rfl
  · refine ⟨?_, Nat.le_refl _, Nat.le_refl _, ?_, ?_, fun a c9 h9 => ⟨c9, h9, rfl, rfl, fun _ _ => rfl⟩⟩
    · obtain ⟨t, ht, -⟩ := State.frames_cons hr
      show T.setVm s.vm = { ((T.setVm s.vm).setFrames (.invoking m args :: below)).setFrames (T.setVm s.vm).frames with heap := T.heap, slotsUsed := T.slotsUsed }
      rw [State.setFrames_setFrames, State.setFrames_self ht]
      rfl
    · show T.slotsUsed = T.slotsUsed + ((T.heap.toList.drop T.heap.size).map (·.slots.size)).sum
      rw [List.drop_eq_nil_of_le (Nat.le_of_eq Array.length_toList)]
      rfl
    · show ((T.heap.toList.drop T.heap.size).map (·.slots.size)).sum ≤ 0
      rw [List.drop_eq_nil_of_le (Nat.le_of_eq Array.length_toList)]
      exact Nat.le_refl _
/-- 'throw new E()': new; dup; invokespecial; athrow -/
theorem vx_throw0 {cc : ByteArray} {pc : Nat} (hexec : p.tables.exec = Jvm.exec) (hb : c.code = cc) (hl : l.stackTraces = false) {own cls : String} {names : List String} {ik ic mc ms : Nat} {A : Nat → Prop}
    (hown : s.vm.findClass own = some m.cls) (hcls : Bundle.fit cls = true) (hnames : ∀ n ∈ names, Bundle.fit n = true)
    (hk : (Cond.classLink own ik cls).before args s = true) (hini : (Cond.initialized cls).before args s = true) (hat : ∀ w ∈ vx_at0 own ic cls names, w.before args s = true)
    (hgood : ∀ w ∈ Cond.classLink own ik cls :: Cond.initialized cls :: vx_at0 own ic cls names, vx_ot w = true)
    (hU : vx_Zq Bundle.tN "UNASSIGNED_STACK" Bundle.steD A s s.heap) (hN : vx_Zq Bundle.tN "SUPPRESSED_SENTINEL" Bundle.listD A s s.heap) (hS : va_S A s.heap H locs) (hsize : ls.size = c.maxLocals)
    (d0 : decode cc pc = .ok (.new ik, 3)) (d3 : decode cc (pc + 3) = .ok (.dup, 1)) (d4 : decode cc (pc + 4) = .ok (.invokespecial ic, 3)) (d7 : decode cc (pc + 7) = .ok (.athrow, 1))
    (hout : ∀ x ∈ c.exceptionTable.toList, covers x (pc + 7) = false)
    (hRframes : names.length + 3 < R.frames) (hRlocals : (rest.map fun v => v.category).sum + (13 * (names.length + 1) + 42) ≤ R.locals) (hRcells : cells + 1 ≤ R.cells) (hRslots : slots + 6 ≤ R.slots) (hlocks : meth.locks = false)
    (hx : ∀ t : State, s.vm.Alike t.vm → H.size ≤ t.heap.size → (∀ q : Nat, q < H.size → t.heap[q]? = H[q]?) → XC cls s t)
    (hf : ∀ z ∈ locs, free z.base) (hc : cells + 1 ≤ mc) (hs : slots + 6 ≤ ms) :
    W p l e R s m args below meth c H locs cells slots (vx_MQ below Qc XC args s mc ms free) (F0 m pc ls rest) := by
  intro T hT X
  have htr : e.platform.stackTraces = false := (show e.platform.stackTraces = l.stackTraces by rw [X.admits.platform]).trans hl
  have Y := vx_rebase X (R' := { frames := R.frames, locals := R.locals, cells := 1, slots := 6 }) (Nat.le_refl _) (Nat.le_refl _) hRcells hRslots
  obtain ⟨s', hA⟩ : ∃ z, z = (T.setVm s.vm).setFrames (.invoking m args :: below) := ⟨_, rfl⟩
  rw [← hA] at Y
  have hvm : s'.vm = s.vm := by rw [hA]; rfl
  have hhp : s'.heap = H := by rw [hA]; exact hT
  have hW0 : s.WarmedH s'.vm := by rw [hvm]; exact State.WarmedH.refl s
  have hat' : ∀ w ∈ vx_at0 own ic cls names, w.before args s' = true := fun w hw => vx_ot_at hW0 hvm.symm (hgood w (List.mem_cons_of_mem _ (List.mem_cons_of_mem _ hw))) (hat w hw)
  have hk' : (Cond.classLink own ik cls).before args s' = true := vx_ot_at hW0 hvm.symm (hgood _ List.mem_cons_self) hk
  have hini' : (Cond.initialized cls).before args s' = true := vx_ot_at hW0 hvm.symm (hgood _ (List.mem_cons_of_mem _ List.mem_cons_self)) hini
  have hU' : vx_Zq Bundle.tN "UNASSIGNED_STACK" Bundle.steD A s' s'.heap := by rw [hhp]; exact vx_Zq.moved hW0.alike (hU.kept hS.2.1)
  have hN' : vx_Zq Bundle.tN "SUPPRESSED_SENTINEL" Bundle.listD A s' s'.heap := by rw [hhp]; exact vx_Zq.moved hW0.alike (hN.kept hS.2.1)
  have h : ∀ w ∈ Bundle.ownAtoms0 own ic cls names, w.before args s' = true := vx_own hat' (vx_isRefq hU'.1) (vx_isRefq hN'.1) hU'.2.word hN'.2.word
  have hown' : s'.vm.findClass own = some m.cls := by rw [hvm]; exact hown
  have hins : (Cond.instantiable cls 6).before args s' = true := h _ (by simp [Bundle.ownAtoms0])
  obtain ⟨vm₁, cX, kX, hfX, hkX, -, -, X₁, st1⟩ := Y.newCold hexec (own := own) (C := cls) (index := ik) (n := 6) hown' hk' hins hini'
    (g := F0 m pc ls rest) rfl (by rw [hb]; exact d0) (Nat.le_refl _) (Nat.le_refl _)
  generalize hT1 : (T.setVm vm₁).pushCell { cls := cX, slots := kX.instanceTypes.map defaultValue, vm := .none } = T1 at X₁ st1
  have hcat : (Value.ref T.heap.size).category = 1 := rfl
  have hcellA : T1.heap[T.heap.size]? = some (freshCell cX kX) := by rw [← hT1]; exact State.heap_pushCell_size _ _
  have d3' : decode c.code (pc + 3) = .ok (.dup, 1) := by rw [hb]; exact d3
  obtain ⟨U, hsteps, hrun, hend, hW, hsame, ce, hce, hO⟩ := X₁.ctorThrow0 hexec htr (own := own) (cls := cls) (names := names) (ic := ic) hown' hcls hnames h (fun x hx => nomatch hx) hfX hkX hcellA (by rw [hhp, hT]; exact Nat.le_refl _)
    (g := { method := m, pc := pc + 4, locals := ls, stack := .ref T.heap.size :: .ref T.heap.size :: rest, locked := none }) rfl hsize rfl rfl (rest := rest) rfl
    (by rw [hb]; exact d4) (by rw [hb]; exact d7) hout hRframes (by simp only [List.map_cons, List.sum_cons, hcat]; omega) hlocks
  obtain ⟨f1, f2⟩ := vx_frame hsame
  rw [hhp] at f1 f2
  have hWs : s.WarmedH U.vm := State.WarmedH.trans hW0 hW
  have hcl : s.vm.findClass cls = some ce.cls := by
    have h9 := hO.cls
    rw [hvm] at h9
    exact h9
  have hall : s.sameButNew ({ U with vm := s.vm } : State) locs mc ms := by
    subst hA
    obtain ⟨e1, e2⟩ := hsame
    rw [State.setFrames_setFrames] at e1
    have h2 : (T.setVm s.vm).sameButNew ({ U with vm := s.vm } : State) [] (0 + 1) (0 + 6) := ⟨e1, e2⟩
    have h3 := X.same.trans h2
    rw [List.append_nil] at h3
    exact h3.mono hc hs
  refine ⟨U, ?_, .threw T.heap.size, hrun, hend, Or.inr ⟨T.heap.size, rfl, cls, ce, locs, hx U hWs.alike f1 (fun q hq => f2 q hq (fun z hz => nomatch hz)), hce, hO.vm, hcl, hWs, hall, hf⟩⟩
  refine st1 _ ?_
  show Steps p.tables e below (T1.setTop { method := m, pc := pc + 3, locals := ls, stack := .ref T.heap.size :: rest, locked := none }) _
  jvm_step X₁.here [X₁.here.top, hexec, d3', Value.category]
  exact hsteps
/-- 'throw new E("text")': new; dup; ldc; invokespecial; athrow -/
theorem vx_throwS {cc : ByteArray} {pc : Nat} (hexec : p.tables.exec = Jvm.exec) (hb : c.code = cc) (hl : l.stackTraces = false) {own cls text : String} {names : List String} {ik is ic mc ms sa : Nat} {A : Nat → Prop}
    (hown : s.vm.findClass own = some m.cls) (hcls : Bundle.fit cls = true) (hnames : ∀ n ∈ names, Bundle.fit n = true)
    (hk : (Cond.classLink own ik cls).before args s = true) (hini : (Cond.initialized cls).before args s = true) (hstr : vk_R own is text sa s) (hat : ∀ w ∈ vx_atS own ic cls names, w.before args s = true)
    (hgood : ∀ w ∈ Cond.classLink own ik cls :: Cond.initialized cls :: vx_atS own ic cls names, vx_ot w = true)
    (hU : vx_Zq Bundle.tN "UNASSIGNED_STACK" Bundle.steD A s s.heap) (hN : vx_Zq Bundle.tN "SUPPRESSED_SENTINEL" Bundle.listD A s s.heap) (hS : va_S A s.heap H locs) (hsize : ls.size = c.maxLocals)
    (d0 : decode cc pc = .ok (.new ik, 3)) (d3 : decode cc (pc + 3) = .ok (.dup, 1)) (d4 : decode cc (pc + 4) = .ok (.ldc is, 2)) (d6 : decode cc (pc + 6) = .ok (.invokespecial ic, 3)) (d9 : decode cc (pc + 9) = .ok (.athrow, 1))
    (hout : ∀ x ∈ c.exceptionTable.toList, covers x (pc + 9) = false)
    (hRframes : names.length + 3 < R.frames) (hRlocals : (rest.map fun v => v.category).sum + (13 * (names.length + 1) + 43) ≤ R.locals) (hRcells : cells + 1 ≤ R.cells) (hRslots : slots + 6 ≤ R.slots) (hlocks : meth.locks = false)
    (hx : ∀ t : State, s.vm.Alike t.vm → H.size ≤ t.heap.size → (∀ q : Nat, q < H.size → t.heap[q]? = H[q]?) → XC cls s t)
    (hf : ∀ z ∈ locs, free z.base) (hc : cells + 1 ≤ mc) (hs : slots + 6 ≤ ms) :
    W p l e R s m args below meth c H locs cells slots (vx_MQ below Qc XC args s mc ms free) (F0 m pc ls rest) := by
  intro T hT X
  have htr : e.platform.stackTraces = false := (show e.platform.stackTraces = l.stackTraces by rw [X.admits.platform]).trans hl
  have Y := vx_rebase X (R' := { frames := R.frames, locals := R.locals, cells := 1, slots := 6 }) (Nat.le_refl _) (Nat.le_refl _) hRcells hRslots
  obtain ⟨s', hA⟩ : ∃ z, z = (T.setVm s.vm).setFrames (.invoking m args :: below) := ⟨_, rfl⟩
  rw [← hA] at Y
  have hvm : s'.vm = s.vm := by rw [hA]; rfl
  have hhp : s'.heap = H := by rw [hA]; exact hT
  have hW0 : s.WarmedH s'.vm := by rw [hvm]; exact State.WarmedH.refl s
  have hat' : ∀ w ∈ vx_atS own ic cls names, w.before args s' = true := fun w hw => vx_ot_at hW0 hvm.symm (hgood w (List.mem_cons_of_mem _ (List.mem_cons_of_mem _ hw))) (hat w hw)
  have hk' : (Cond.classLink own ik cls).before args s' = true := vx_ot_at hW0 hvm.symm (hgood _ List.mem_cons_self) hk
  have hini' : (Cond.initialized cls).before args s' = true := vx_ot_at hW0 hvm.symm (hgood _ (List.mem_cons_of_mem _ List.mem_cons_self)) hini
  have hU' : vx_Zq Bundle.tN "UNASSIGNED_STACK" Bundle.steD A s' s'.heap := by rw [hhp]; exact vx_Zq.moved hW0.alike (hU.kept hS.2.1)
  have hN' : vx_Zq Bundle.tN "SUPPRESSED_SENTINEL" Bundle.listD A s' s'.heap := by rw [hhp]; exact vx_Zq.moved hW0.alike (hN.kept hS.2.1)
  have h : ∀ w ∈ Bundle.ownAtoms own ic cls names, w.before args s' = true := vx_own hat' (vx_isRefq hU'.1) (vx_isRefq hN'.1) hU'.2.word hN'.2.word
  have hown' : s'.vm.findClass own = some m.cls := by rw [hvm]; exact hown
  have hins : (Cond.instantiable cls 6).before args s' = true := h _ (by simp [Bundle.ownAtoms])
  obtain ⟨vm₁, cX, kX, hfX, hkX, -, -, X₁, st1⟩ := Y.newCold hexec (own := own) (C := cls) (index := ik) (n := 6) hown' hk' hins hini'
    (g := F0 m pc ls rest) rfl (by rw [hb]; exact d0) (Nat.le_refl _) (Nat.le_refl _)
  generalize hT1 : (T.setVm vm₁).pushCell { cls := cX, slots := kX.instanceTypes.map defaultValue, vm := .none } = T1 at X₁ st1
  have hcat : (Value.ref T.heap.size).category = 1 := rfl
  have hcellA : T1.heap[T.heap.size]? = some (freshCell cX kX) := by rw [← hT1]; exact State.heap_pushCell_size _ _
  have d3' : decode c.code (pc + 3) = .ok (.dup, 1) := by rw [hb]; exact d3
  have d4' : decode c.code (pc + 4) = .ok (.ldc is, 2) := by rw [hb]; exact d4
  have hstr' : vk_R own is text sa s' := vk_R.warm hW0 hstr
  obtain ⟨U, hsteps, hrun, hend, hW, hsame, ce, hce, hO⟩ := X₁.ctorThrowS hexec htr (own := own) (cls := cls) (names := names) (ic := ic) hown' hcls hnames h (fun x hx => nomatch hx) hfX hkX hcellA (by rw [hhp, hT]; exact Nat.le_refl _) (msg := .ref sa) rfl
    (g := { method := m, pc := pc + 6, locals := ls, stack := .ref sa :: .ref T.heap.size :: .ref T.heap.size :: rest, locked := none }) rfl hsize rfl rfl (rest := rest) rfl
    (by rw [hb]; exact d6) (by rw [hb]; exact d9) hout hRframes (by simp only [List.map_cons, List.sum_cons, hcat]; omega) hlocks
  obtain ⟨f1, f2⟩ := vx_frame hsame
  rw [hhp] at f1 f2
  have hWs : s.WarmedH U.vm := State.WarmedH.trans hW0 hW
  have hcl : s.vm.findClass cls = some ce.cls := by
    have h9 := hO.cls
    rw [hvm] at h9
    exact h9
  have hall : s.sameButNew ({ U with vm := s.vm } : State) locs mc ms := by
    subst hA
    obtain ⟨e1, e2⟩ := hsame
    rw [State.setFrames_setFrames] at e1
    have h2 : (T.setVm s.vm).sameButNew ({ U with vm := s.vm } : State) [] (0 + 1) (0 + 6) := ⟨e1, e2⟩
    have h3 := X.same.trans h2
    rw [List.append_nil] at h3
    exact h3.mono hc hs
  refine ⟨U, ?_, .threw T.heap.size, hrun, hend, Or.inr ⟨T.heap.size, rfl, cls, ce, locs, hx U hWs.alike f1 (fun q hq => f2 q hq (fun z hz => nomatch hz)), hce, hO.vm, hcl, hWs, hall, hf⟩⟩
  refine st1 _ ?_
  show Steps p.tables e below (T1.setTop { method := m, pc := pc + 3, locals := ls, stack := .ref T.heap.size :: rest, locked := none }) _
  jvm_step X₁.here [X₁.here.top, hexec, d3', Value.category]
  exact X₁.ldcString hexec (own := own) (text := text) (index := is) (a := sa) hown' hstr'.1 hstr'.2
    (g := { method := m, pc := pc + 4, locals := ls, stack := .ref T.heap.size :: .ref T.heap.size :: rest, locked := none }) rfl d4' _ hsteps
/-- 'throw new E("text")', the text by a wide index -/
theorem vx_throwSW {cc : ByteArray} {pc : Nat} (hexec : p.tables.exec = Jvm.exec) (hb : c.code = cc) (hl : l.stackTraces = false) {own cls text : String} {names : List String} {ik is ic mc ms sa : Nat} {A : Nat → Prop}
    (hown : s.vm.findClass own = some m.cls) (hcls : Bundle.fit cls = true) (hnames : ∀ n ∈ names, Bundle.fit n = true)
    (hk : (Cond.classLink own ik cls).before args s = true) (hini : (Cond.initialized cls).before args s = true) (hstr : vk_R own is text sa s) (hat : ∀ w ∈ vx_atS own ic cls names, w.before args s = true)
    (hgood : ∀ w ∈ Cond.classLink own ik cls :: Cond.initialized cls :: vx_atS own ic cls names, vx_ot w = true)
    (hU : vx_Zq Bundle.tN "UNASSIGNED_STACK" Bundle.steD A s s.heap) (hN : vx_Zq Bundle.tN "SUPPRESSED_SENTINEL" Bundle.listD A s s.heap) (hS : va_S A s.heap H locs) (hsize : ls.size = c.maxLocals)
    (d0 : decode cc pc = .ok (.new ik, 3)) (d3 : decode cc (pc + 3) = .ok (.dup, 1)) (d4 : decode cc (pc + 4) = .ok (.ldc_w is, 3)) (d7 : decode cc (pc + 7) = .ok (.invokespecial ic, 3)) (d10 : decode cc (pc + 10) = .ok (.athrow, 1))
    (hout : ∀ x ∈ c.exceptionTable.toList, covers x (pc + 10) = false)
    (hRframes : names.length + 3 < R.frames) (hRlocals : (rest.map fun v => v.category).sum + (13 * (names.length + 1) + 43) ≤ R.locals) (hRcells : cells + 1 ≤ R.cells) (hRslots : slots + 6 ≤ R.slots) (hlocks : meth.locks = false)
    (hx : ∀ t : State, s.vm.Alike t.vm → H.size ≤ t.heap.size → (∀ q : Nat, q < H.size → t.heap[q]? = H[q]?) → XC cls s t)
    (hf : ∀ z ∈ locs, free z.base) (hc : cells + 1 ≤ mc) (hs : slots + 6 ≤ ms) :
    W p l e R s m args below meth c H locs cells slots (vx_MQ below Qc XC args s mc ms free) (F0 m pc ls rest) := by
  intro T hT X
  have htr : e.platform.stackTraces = false := (show e.platform.stackTraces = l.stackTraces by rw [X.admits.platform]).trans hl
  have Y := vx_rebase X (R' := { frames := R.frames, locals := R.locals, cells := 1, slots := 6 }) (Nat.le_refl _) (Nat.le_refl _) hRcells hRslots
  obtain ⟨s', hA⟩ : ∃ z, z = (T.setVm s.vm).setFrames (.invoking m args :: below) := ⟨_, rfl⟩
  rw [← hA] at Y
  have hvm : s'.vm = s.vm := by rw [hA]; rfl
  have hhp : s'.heap = H := by rw [hA]; exact hT
  have hW0 : s.WarmedH s'.vm := by rw [hvm]; exact State.WarmedH.refl s
  have hat' : ∀ w ∈ vx_atS own ic cls names, w.before args s' = true := fun w hw => vx_ot_at hW0 hvm.symm (hgood w (List.mem_cons_of_mem _ (List.mem_cons_of_mem _ hw))) (hat w hw)
  have hk' : (Cond.classLink own ik cls).before args s' = true := vx_ot_at hW0 hvm.symm (hgood _ List.mem_cons_self) hk
  have hini' : (Cond.initialized cls).before args s' = true := vx_ot_at hW0 hvm.symm (hgood _ (List.mem_cons_of_mem _ List.mem_cons_self)) hini
  have hU' : vx_Zq Bundle.tN "UNASSIGNED_STACK" Bundle.steD A s' s'.heap := by rw [hhp]; exact vx_Zq.moved hW0.alike (hU.kept hS.2.1)
  have hN' : vx_Zq Bundle.tN "SUPPRESSED_SENTINEL" Bundle.listD A s' s'.heap := by rw [hhp]; exact vx_Zq.moved hW0.alike (hN.kept hS.2.1)
  have h : ∀ w ∈ Bundle.ownAtoms own ic cls names, w.before args s' = true := vx_own hat' (vx_isRefq hU'.1) (vx_isRefq hN'.1) hU'.2.word hN'.2.word
  have hown' : s'.vm.findClass own = some m.cls := by rw [hvm]; exact hown
  have hins : (Cond.instantiable cls 6).before args s' = true := h _ (by simp [Bundle.ownAtoms])
  obtain ⟨vm₁, cX, kX, hfX, hkX, -, -, X₁, st1⟩ := Y.newCold hexec (own := own) (C := cls) (index := ik) (n := 6) hown' hk' hins hini'
    (g := F0 m pc ls rest) rfl (by rw [hb]; exact d0) (Nat.le_refl _) (Nat.le_refl _)
  generalize hT1 : (T.setVm vm₁).pushCell { cls := cX, slots := kX.instanceTypes.map defaultValue, vm := .none } = T1 at X₁ st1
  have hcat : (Value.ref T.heap.size).category = 1 := rfl
  have hcellA : T1.heap[T.heap.size]? = some (freshCell cX kX) := by rw [← hT1]; exact State.heap_pushCell_size _ _
  have d3' : decode c.code (pc + 3) = .ok (.dup, 1) := by rw [hb]; exact d3
  have d4' : decode c.code (pc + 4) = .ok (.ldc_w is, 3) := by rw [hb]; exact d4
  have hstr' : vk_R own is text sa s' := vk_R.warm hW0 hstr
  obtain ⟨U, hsteps, hrun, hend, hW, hsame, ce, hce, hO⟩ := X₁.ctorThrowS hexec htr (own := own) (cls := cls) (names := names) (ic := ic) hown' hcls hnames h (fun x hx => nomatch hx) hfX hkX hcellA (by rw [hhp, hT]; exact Nat.le_refl _) (msg := .ref sa) rfl
    (g := { method := m, pc := pc + 7, locals := ls, stack := .ref sa :: .ref T.heap.size :: .ref T.heap.size :: rest, locked := none }) rfl hsize rfl rfl (rest := rest) rfl
    (by rw [hb]; exact d7) (by rw [hb]; exact d10) hout hRframes (by simp only [List.map_cons, List.sum_cons, hcat]; omega) hlocks
  obtain ⟨f1, f2⟩ := vx_frame hsame
  rw [hhp] at f1 f2
  have hWs : s.WarmedH U.vm := State.WarmedH.trans hW0 hW
  have hcl : s.vm.findClass cls = some ce.cls := by
    have h9 := hO.cls
    rw [hvm] at h9
    exact h9
  have hall : s.sameButNew ({ U with vm := s.vm } : State) locs mc ms := by
    subst hA
    obtain ⟨e1, e2⟩ := hsame
    rw [State.setFrames_setFrames] at e1
    have h2 : (T.setVm s.vm).sameButNew ({ U with vm := s.vm } : State) [] (0 + 1) (0 + 6) := ⟨e1, e2⟩
    have h3 := X.same.trans h2
    rw [List.append_nil] at h3
    exact h3.mono hc hs
  refine ⟨U, ?_, .threw T.heap.size, hrun, hend, Or.inr ⟨T.heap.size, rfl, cls, ce, locs, hx U hWs.alike f1 (fun q hq => f2 q hq (fun z hz => nomatch hz)), hce, hO.vm, hcl, hWs, hall, hf⟩⟩
  refine st1 _ ?_
  show Steps p.tables e below (T1.setTop { method := m, pc := pc + 3, locals := ls, stack := .ref T.heap.size :: rest, locked := none }) _
  jvm_step X₁.here [X₁.here.top, hexec, d3', Value.category]
  exact X₁.ldcStringW hexec (own := own) (text := text) (index := is) (a := sa) hown' hstr'.1 hstr'.2
    (g := { method := m, pc := pc + 4, locals := ls, stack := .ref T.heap.size :: .ref T.heap.size :: rest, locked := none }) rfl d4' _ hsteps
end Ends
section Bodies
variable {l : Launch}
theorem vx_ofW {y : MethodName} {ws ws' : List Cond} {rm : Room} {Pc : Array Value → State → Prop} {Qc : Array Value → State → Outcome → State → Prop} {XC : String → State → State → Prop} {mc ms : Nat} {free : Addr → Prop} {cc : ByteArray} {maxL : Nat} {ret : Option FieldType}
    (hy : plainName y.cls = true) (hw : ws = Cond.code y cc maxL ret :: ws')
    (body : ∀ p e s m args below meth c s₁, BodyLoose p l y (headSpec ws rm) cc maxL ret e s m args below meth c s₁ → c.maxLocals = maxL → (∀ x ∈ c.exceptionTable.toList, False) → Pc args s →
      W p l e (headSpec ws rm).room s m args below meth c s.heap [] 0 0 (vx_MQ below Qc XC args s mc ms free) (entryFrame m args maxL)) : vx_Met l y ws rm Pc Qc XC mc ms free := by
  refine MetFree.of_bodyS (code := cc) (maxLocals := maxL) (ret := ret) hy ?_ ?_
  · intro args s m h hn
    obtain ⟨meth, c, h1, h2, h3, h4, h5, h6, -, -⟩ := Cond.code_spec hn (atoms_spec (ws := ws) h _ (by rw [hw]; exact List.mem_cons_self))
    exact ⟨meth, c, h1, h2, h3, h4, h5, h6⟩
  · intro p e s m args below meth c s₁ B hml hP _
    have hh0 : s₁.heap = s.heap := by rw [B.state]; rfl
    have ht : ∀ x ∈ c.exceptionTable.toList, False := by
      obtain ⟨meth9, c9, h1, h2, -, -, -, -, h7, -⟩ := Cond.code_spec B.named (atoms_spec (ws := ws) B.pre _ (by rw [hw]; exact List.mem_cons_self))
      cases Option.some.inj (h1.symm.trans B.method)
      cases Option.some.inj (h2.symm.trans (Stand.of_body B).code)
      intro x hx
      rw [Array.isEmpty_iff.mp h7] at hx
      cases hx
    obtain ⟨t, a1, o, b1, b2, b3⟩ := body p e s m args below meth c s₁ B hml ht hP s₁ hh0 (Stand.of_body B)
    exact ⟨t, o, a1, b1, b2, b3⟩
/-- the table of a body with handlers -/
theorem vx_table {p : Program} {x y : MethodName} {S : Spec} {cc bytes : ByteArray} {maxL maxL' : Nat} {ret ret' : Option FieldType} {e : Env} {s s₁ : State} {m : MethodId} {args : Array Value} {below : List Frame} {meth : Method} {c : Code} {hh : List (Nat × Nat × Nat × Nat)}
    (B : BodyLoose p l y S cc maxL ret e s m args below meth c s₁) (h : (Cond.codeWith y bytes maxL' ret' hh).before args s = true) : c.exceptionTable.toList = tableOf hh := by
  obtain ⟨m9, meth9, c9, hn9, h1, h2, -, -, h6, -⟩ := Cond.codeWith_spec h
  cases Option.some.inj (hn9.symm.trans B.named)
  cases Option.some.inj (h1.symm.trans B.method)
  cases Option.some.inj (h2.symm.trans (Stand.of_body B).code)
  rw [← h6, table_eq]
end Bodies
end VXA
/-! ===== END ===== -/
/-! ===== BEGIN a static call of a method with an exception table ===== -/
section VXS
variable {p : Program} {l : Launch} {e : Env} {R : Room} {s : State} {m : MethodId} {args : Array Value} {below : List Frame} {meth : Method} {c : Code} {T : State} {H : Heap} {locs : List Loc} {cells slots : Nat}
abbrev vx_CSW (R : Room) (s : State) (args : Array Value) (own : String) (index : Nat) (y : MethodName) (bytes : ByteArray) (maxL : Nat) (ret : Option FieldType) (hh : List (Nat × Nat × Nat × Nat)) (ws : List Cond) (rm : Room) (mc ms n : Nat) : Prop :=
  (rm.cells = mc ∧ rm.slots = ms ∧ rm.frames + 1 ≤ R.frames ∧ 8 + (maxL + 11) + rm.locals ≤ R.locals ∧ (∀ w ∈ ws, ∀ (a' : Array Value) (U : State), s.WarmedH U.vm → w.before a' U = true) ∧ Cond.codeWith y bytes maxL ret hh ∈ ws) ∧
  (Cond.codeWith y bytes maxL ret hh).before args s = true ∧ (Cond.initialized y.cls).before args s = true ∧ (y.cls ≠ "java/lang/invoke/MethodHandle" ∧ y.cls ≠ "java/lang/invoke/VarHandle") ∧
  (∀ sig, parseMethodDescriptor y.desc = some sig → n = sig.parameters.length) ∧ (Cond.methodLink own index y).before args s = true ∧ (Cond.static y).before args s = true
theorem vx_cwSW {own : String} {index maxL mc ms : Nat} {y : MethodName} {bytes : ByteArray} {ret : Option FieldType} {hh : List (Nat × Nat × Nat × Nat)} {Ts ws ws' : List Cond} {rm : Room} (n : Nat) (ht : ∀ w ∈ Ts, w.before args s = true) (hT : GoodIn Ts (va_wsS own index y ws)) (hw : ws = Cond.codeWith y bytes maxL ret hh :: ws') (hrc : rm.cells = mc) (hrs : rm.slots = ms)
    (hd : y.cls ≠ "java/lang/invoke/MethodHandle" ∧ y.cls ≠ "java/lang/invoke/VarHandle" ∧ (parseMethodDescriptor y.desc).map (fun d => d.parameters.length) = some n) (hR : rm.frames + 1 ≤ R.frames ∧ 8 + (maxL + 11) + rm.locals ≤ R.locals) :
    vx_CSW R s args own index y bytes maxL ret hh ws rm mc ms n := by
  have ok : ∀ w ∈ va_wsS own index y ws, w.before args s = true := fun w h => ht w (hT w h).1
  have hG : GoodIn Ts ws := fun w h => hT w (by unfold va_wsS; exact List.mem_append_right _ h)
  have hc : Cond.codeWith y bytes maxL ret hh ∈ ws := by rw [hw]; exact List.mem_cons_self
  refine ⟨⟨hrc, hrs, hR.1, hR.2, pay_in ht hG, hc⟩, ht _ (hG _ hc).1, ok _ (by simp [va_wsS]), ⟨hd.1, hd.2.1⟩, fun sig h => ?_, ok _ (by simp [va_wsS]), ok _ (by simp [va_wsS])⟩
  have h2 := hd.2.2
  rw [h] at h2
  exact (Option.some.inj h2).symm
theorem vx_callSW (X : Stand p l e R s m args below meth c T locs cells slots) (hexec : p.tables.exec = Jvm.exec) {own : String} {index : Nat} {y : MethodName} {bytes : ByteArray} {maxL : Nat} {ret : Option FieldType} {hh : List (Nat × Nat × Nat × Nat)}
    (hown : s.vm.findClass own = some m.cls) (hlink : (Cond.methodLink own index y).before args s = true) (hstat : (Cond.static y).before args s = true) (hinit : (Cond.initialized y.cls).before args s = true)
    (hcode : (Cond.codeWith y bytes maxL ret hh).before args s = true) (hy : y.cls ≠ "java/lang/invoke/MethodHandle" ∧ y.cls ≠ "java/lang/invoke/VarHandle")
    {W9 : Nat} {Pre : Pt → Array Value → Prop} {Post : Pt → Array Value → Option Value → Pt → Prop} (hK : Back l R p e below s args y 3 W9 Pre Post)
    {g : JFrame} (hg : g.method = m) (hsize : g.locals.size = c.maxLocals) {argsL rest : List Value} (hlen : ∀ sig, parseMethodDescriptor y.desc = some sig → argsL.length = sig.parameters.length)
    (hstack : g.stack = argsL.reverse ++ rest) (hW : 2 * g.monitorRoom + (rest.map fun v => v.category).sum ≤ W9) (hdg : decode c.code g.pc = .ok (.invokestatic index, 3))
    (hpre : ∀ vm₁, s.WarmedH vm₁ → Pre ⟨T.setVm vm₁, locs, cells, slots⟩ argsL.toArray) :
    ∃ (v : Option Value) (vm₁ : Vm) (B : Pt), s.WarmedH vm₁ ∧ Stand p l e R s m args below meth c B.U B.locs B.cells B.slots ∧ Post ⟨T.setVm vm₁, locs, cells, slots⟩ argsL.toArray v B ∧
      ∀ target, Steps p.tables e below (B.U.setTop { g with pc := g.pc + 3, stack := v.toList ++ rest }) target → Steps p.tables e below (T.setTop g) target := by
  obtain ⟨mk, methM, cM, hnamed, hmethM, -, -, -, -, -, -, hsigM⟩ := Cond.codeWith_spec hcode
  have hstatic : methM.isStatic = true := Cond.static_spec hnamed hmethM hstat
  obtain ⟨kP, hkP, -⟩ := className_of_methodNamed hnamed
  have hinitP : kP.init = .initialized := Cond.initialized_spec (findClass_of_methodNamed hnamed) hkP hinit
  obtain ⟨vm₁, X₁, hstep₁⟩ := X.invokestatic hexec hown hlink hnamed hmethM hstatic hkP hinitP hy (g := g) hg (argsL := argsL) (rest := rest) (hlen _ hsigM) hstack hdg
  obtain ⟨v, B, X', hpost, hsteps⟩ := hK m meth c ⟨T.setVm vm₁, locs, cells, slots⟩ { g with stack := rest } (.invokestatic index) mk argsL.toArray X₁ hg hsize hdg hW (X₁.named hnamed) (hpre vm₁ X₁.warmed)
  exact ⟨v, vm₁, B, X₁.warmed, X', hpost, fun target h => hstep₁ _ fun acts => by rw [doInvoke_state]; exact hsteps.trans h⟩
theorem vx_runSW {y : MethodName} {bytes cc : ByteArray} {maxL nL mc ms n index : Nat} {ret : Option FieldType} {hh : List (Nat × Nat × Nat × Nat)} {ws : List Cond} {rm : Room} {Pc : Array Value → State → Prop} {Qc : Array Value → State → Outcome → State → Prop} {free : Addr → Prop} {Ts : List Cond} {own : String} {As rest : List Value} {g : JFrame}
    (S : CallFix p m c cc nL s args Ts own) (hM : Met l y ws rm Pc Qc mc ms free) (cw : vx_CSW R s args own index y bytes maxL ret hh ws rm mc ms n) (hp : PreS s H Pc As)
    (hg : g.method = m) (hn : As.length = n) (hsize : g.locals.size = nL) (hstack : g.stack = As.reverse ++ rest) (hW : 2 * g.monitorRoom + (rest.map fun v => v.category).sum ≤ 8) (hdg : decode cc g.pc = .ok (.invokestatic index, 3)) (hf : cells + mc ≤ R.cells ∧ slots + ms ≤ R.slots) :
    va_Run p l e R s m args below meth c H locs cells slots mc ms g rest (Qc As.toArray) (free) := by
  obtain ⟨⟨hrc, hrs, hfr, hlo, hws, hcw⟩, hcode, hini, hy, hlen, hl, hstt⟩ := cw
  have hK : Back l R p e below s args y 3 8 (PreOf R mc ms Pc) (PostOf Qc mc ms free) := va_backW (hh := hh) (bytes := bytes) (maxL := maxL) (ret := ret) hM hp.1 hrc hrs hfr hlo hws hcw (fun a' U hW => word_at hW (Or.inl (by first | rfl | simp [Cond.onTables, Cond.keeps, Cond.steady])) hini)
  obtain ⟨hx, hb, hml, ho, -⟩ := S
  intro T hT X
  obtain ⟨v, vm₁, ⟨U', l2, c2, s2⟩, hW₁, X', ⟨g', mk, t, L, e1, e2, hq, h1, hL, h2, h3⟩, st⟩ := vx_callSW X hx (hh := hh) (bytes := bytes) (maxL := maxL) (ret := ret) ho hl hstt hini hcode hy hK hg (hsize.trans hml.symm) (argsL := As) (rest := rest) (fun sig h => hn.trans (hlen sig h)) hstack hW (by rw [hb]; exact hdg)
    (fun vm₁ hW₁ => ⟨hf.1, hf.2, hp.2 (T.setVm vm₁) hT hW₁⟩)
  dsimp only [Pt.U, Pt.locs, Pt.cells, Pt.slots] at X' e1 e2 h1 h2 h3 st
  subst h1; subst h2; subst h3
  exact ⟨v, (T.setVm vm₁).calling g' mk As.toArray, t, U', L, hT, X', hL, e1, e2, hq, st⟩
/-- not caught here, past rows that name other classes: it goes on to the caller -/
theorem vx_outP {p : Program} {l : Launch} {e : Env} {R : Room} {s : State} {m : MethodId} {args : Array Value} {below : List Frame} {meth : Method} {c : Code} {H : Heap} {locs : List Loc} {cells slots : Nat} {free : Addr → Prop} {ls : Array Slot} {rest : List Value} {Qc : Array Value → State → Outcome → State → Prop} {XC : String → State → State → Prop}
    {pc : Nat} {own E : String} {ce : Cell} {q : Addr} {mc ms : Nat} (hown : s.vm.findClass own = some m.cls) (hlocks : meth.locks = false)
    (hpass : ∀ z ∈ c.exceptionTable.toList, covers z pc = false ∨ (z.catchType ≠ 0 ∧ ∃ nm : String, (Cond.classLink own z.catchType nm).before args s = true ∧ va_Nc E nm s)) (hcell : H[q]? = some ce) (hv : ce.vm = .none) (hcl : s.vm.findClass E = some ce.cls)
    (hx : ∀ t : State, t.heap = H → s.vm.Alike t.vm → XC E s t) (hf : ∀ z ∈ locs, free z.base) (hc : cells ≤ mc) (hs : slots ≤ ms) :
    vx_W p l e R s m args below meth c H locs cells slots (vx_MQ below Qc XC args s mc ms free) (F0 m pc ls rest) q := by
  intro T hT X
  have hpl : e.platform.magicAccessors = ({} : Platform).magicAccessors := by rw [X.admits.platform]
  obtain ⟨vm', hW', X', st⟩ := X.outThrough hlocks q (g := F0 m pc ls rest) rfl rfl rfl (cell := ce) (by rw [hT]; exact hcell) (by rw [hv]; rfl)
    (by obtain ⟨k9, h9, -⟩ := Vm.findClass_spec hcl; exact ⟨k9, h9⟩) (fun z hz => by
      rcases hpass z hz with h | ⟨hz0, nm, hl1, hn1⟩
      · exact Or.inl h
      · obtain ⟨c6, hc6, hcl6⟩ := Cond.classLink_spec hown hl1 e.platform hpl
        obtain ⟨a8, b8, h1, h2, h3⟩ := hn1
        cases Option.some.inj (h1.symm.trans hcl)
        cases Option.some.inj (h2.symm.trans hc6)
        exact Or.inr ⟨hz0, _, hcl6, h3⟩)
  obtain ⟨g₀, hfr⟩ := X'.frames_eq
  have hcell9 : ((T.setVm vm').setFrames (.throwing q :: below)).heap[q]? = some ce := by
    show T.heap[q]? = some ce
    rw [hT]; exact hcell
  have hend : Ended ((T.setVm vm').setFrames (.throwing q :: below)) below (.threw q) := State.frames_setFrames _ (State.cur_lt_of_frames hfr)
  refine ⟨(T.setVm vm').setFrames (.throwing q :: below), ?_, .threw q, X'.here.running, hend, Or.inr ⟨q, rfl, E, ce, locs, hx _ hT (X'.ends _).1.alike, hcell9, hv, hcl, (X'.ends _).1, (X'.ends _).2.mono hc hs, hf⟩⟩
  rw [X.pushThrowing_eq]
  exact st
/-- a thing of a world lies in the heap -/
theorem vx_lt {D : va_G} {cl : List vw_C} {ws : va_W} {H1 : Heap} (h : va_P D cl ws H1) {k : Nat} {q : Nat × va_E} (hk : ws[k]? = some q) : q.1 < H1.size := (h k q hk).lt
end VXS
/-! ===== END ===== -/
/-! ===== BEGIN methods with a table of their own: called by a name, returning or throwing ===== -/
section VXH
/-! vx_backW, vx_callVX, vx_callSX, vx_callVW, vx_runVW, vx_runVX, vx_runSX, vx_ofWH follow the same proofs as their sisters above (Free/Laws.lean, Shelf42/LK1.lean); vx_outP calls Shelf42/NT130.lean (outThrough). -/
section
variable {l : Launch} {R : Room} {p : Program} {e : Env} {below : List Frame} {s : State} {sargs : Array Value} {y : MethodName} {len W9 : Nat}
theorem vx_backW {ws : List Cond} {rm : Room} {Pc : Array Value → State → Prop} {Qc : Array Value → State → Outcome → State → Prop} {XC : String → State → State → Prop} {mc ms : Nat} {free : Addr → Prop} {bytes : ByteArray} {maxL : Nat} {ret : Option FieldType} {hh : List (Nat × Nat × Nat × Nat)}
    (hM : vx_Met l y ws rm Pc Qc XC mc ms free) (hblind : FrameBlind Pc) (hrc : rm.cells = mc) (hrs : rm.slots = ms)
    (hframes : rm.frames + 1 ≤ R.frames) (hlocals : W9 + (maxL + 11) + rm.locals ≤ R.locals)
    (hws : ∀ w ∈ ws, ∀ a' U, s.WarmedH U.vm → w.before a' U = true) (hcode : Cond.codeWith y bytes maxL ret hh ∈ ws) (hinit : ∀ a' U, s.WarmedH U.vm → (Cond.initialized y.cls).before a' U = true) :
    vx_Back l R p e below s sargs y len W9 (PreOf R mc ms Pc) (PostOf Qc mc ms free) (vx_Post XC mc ms free) := by
  intro m meth c A g ig mk a X hg hsize hdg hW hn hp
  have h1 : (headSpec ws rm).pre.before a A.U = true := atoms_intro fun w hw => hws w hw _ _ X.warmed
  have h2 : (Cond.codeWith y bytes maxL ret hh).before a A.U = true := hws _ hcode _ _ X.warmed
  have h3 : (Cond.initialized y.cls).before a A.U = true := hinit _ _ X.warmed
  have h4 : A.cells + (headSpec ws rm).room.cells ≤ R.cells := by rw [show (headSpec ws rm).room.cells = mc from hrc]; exact hp.1
  have h5 : A.slots + (headSpec ws rm).room.slots ≤ R.slots := by rw [show (headSpec ws rm).room.slots = ms from hrs]; exact hp.2.1
  have hPc : Pc a (A.U.calling g mk a) := hblind _ _ _ _ hp.2.2
  obtain ⟨U, Ls, c0, s0⟩ := A
  dsimp only [Pt.U, Pt.locs, Pt.cells, Pt.slots] at h1 h2 h3 h4 h5 X hn hPc ⊢
  obtain ⟨m9, methY, cY, hn9, hmY, hcY, -, hlY, -⟩ := Cond.codeWith_spec h2
  cases Option.some.inj (hn9.symm.trans hn)
  obtain ⟨kY, hkY, -⟩ := className_of_methodNamed hn
  have hinitY : kY.init = .initialized := Cond.initialized_spec (findClass_of_methodNamed hn) hkY h3
  have h : At U g.method c below := by rw [hg]; exact X.here
  have hlocals9 : W9 + (maxL + 11) + (headSpec ws rm).room.locals ≤ R.locals := hlocals
  have happ : (headSpec ws rm).appliesLoose y e.platform (U.calling g mk a) = true :=
    Spec.appliesLoose_calling (g := g) h hdg hn hkY hinitY
      (X.room_calling (g := g) (R' := (headSpec ws rm).room) hsize hmY hcY hframes (by rw [hlY]; omega) h4 h5) h1
  obtain ⟨mid, hmid⟩ := h.above
  have hfr : (U.setTop g).frames = (.java g :: mid) ++ below := by rw [State.frames_setTop' g h.top, hmid]; rfl
  obtain ⟨o, s₂, hsteps, -, hend, hq⟩ := Steps.callFree hM p X.admits X.cas X.clock (acts := []) hfr happ hPc trivial
  have hq' : vx_Q Qc XC mc ms free a (U.calling g mk a) o s₂ := hq
  rw [State.frames_setTop' g h.top] at hend
  obtain ⟨g₀, hg0⟩ := Option.isSome_iff_exists.mp h.top
  obtain ⟨r, hr⟩ := State.topJava?_eq_some.mp hg0
  have hr' : (({ U with heap := s₂.heap, slotsUsed := s₂.slotsUsed } : State).setVm s₂.vm).frames = .java g₀ :: r := hr
  rcases hq' with ⟨hqc, L, hfe, hL⟩ | ⟨q, rfl, E, ce, L, hx, hce, hcv, hcl, hW₂, hsm, hL⟩
  · obtain ⟨⟨v, rfl⟩, hW₂, e2, q2, q3, q4, q5, q6⟩ := id hfe
    have e3 : s₂ = ({ (U.calling g mk a).setFrames s₂.frames with heap := s₂.heap, slotsUsed := s₂.slotsUsed } : State).setVm s₂.vm := by
      have : s₂ = ({ s₂ with vm := (U.calling g mk a).vm } : State).setVm s₂.vm := rfl
      rw [e2] at this
      exact this
    obtain ⟨c₂, i₂, len₂, hc₂, hd₂, hf₂⟩ := hend
    have hW' : U.WarmedH s₂.vm := hW₂
    have hcc : c₂ = c := by
      have h1 : s₂.code? g.method = U.code? g.method := by
        rw [State.code?_eq, State.code?_eq, hW'.alike.method?]
      exact Option.some.inj (hc₂.symm.trans (h1.trans h.code))
    subst hcc
    have hlen : len₂ = len := by rw [hdg] at hd₂; cases hd₂; rfl
    subst hlen
    have hs₂ : s₂ = (({ U with heap := s₂.heap, slotsUsed := s₂.slotsUsed } : State).setVm s₂.vm).setTop { g with pc := g.pc + len₂, stack := v.toList ++ g.stack } := by
      refine e3.trans ?_
      rw [hf₂, State.calling_eq h.top, State.setFrames_setFrames, State.setTop_of_frames _ hr', hr]
      rfl
    have hsame : U.sameButNew ({ U with heap := s₂.heap, slotsUsed := s₂.slotsUsed } : State) L mc ms := by
      refine ⟨?_, q2, q3, q4, q5, q6⟩
      obtain ⟨t, ht, -⟩ := State.frames_cons hr
      show ({ U with heap := s₂.heap, slotsUsed := s₂.slotsUsed } : State) = { U.setFrames U.frames with heap := s₂.heap, slotsUsed := s₂.slotsUsed }
      rw [State.setFrames_self ht]
    subst hg
    refine Or.inl ⟨v, ⟨(({ U with heap := s₂.heap, slotsUsed := s₂.slotsUsed } : State).setVm s₂.vm), Ls ++ L, c0 + mc, s0 + ms⟩,
      ⟨X.admits, X.cas, X.clock, X.frames, X.room, X.hears, X.method, X.code, (X.here.setHeapUsed s₂.heap s₂.slotsUsed).setVm hW'.alike, X.tail, State.WarmedH.trans X.warmed hW', X.limits, X.bytes, X.same.trans (hsame.setVm s.vm)⟩,
      ⟨g, mk, s₂, L, rfl, rfl, hqc, rfl, hL, rfl, rfl⟩, ?_⟩
    show Steps p.tables e below _ ((({ U with heap := s₂.heap, slotsUsed := s₂.slotsUsed } : State).setVm s₂.vm).setTop { g with pc := g.pc + len₂, stack := v.toList ++ g.stack })
    rw [← hs₂]
    exact hsteps
  · obtain ⟨e2, q2, q3, q4, q5, q6⟩ := id hsm
    have e3 : s₂ = ({ (U.calling g mk a).setFrames s₂.frames with heap := s₂.heap, slotsUsed := s₂.slotsUsed } : State).setVm s₂.vm := by
      have : s₂ = ({ s₂ with vm := (U.calling g mk a).vm } : State).setVm s₂.vm := rfl
      rw [e2] at this
      exact this
    have hf₂ : s₂.frames = .throwing q :: .java g :: U.frames.tail := hend
    have hW' : U.WarmedH s₂.vm := hW₂
    have hs₂ : s₂ = ((({ U with heap := s₂.heap, slotsUsed := s₂.slotsUsed } : State).setVm s₂.vm).setTop g).pushFrame (.throwing q) := by
      refine e3.trans ?_
      rw [hf₂, State.calling_eq h.top, State.setFrames_setFrames, State.pushFrame, State.frames_setTop _ hr', State.setTop_of_frames _ hr', State.setFrames_setFrames, hr]
      rfl
    have hsame : U.sameButNew ({ U with heap := s₂.heap, slotsUsed := s₂.slotsUsed } : State) L mc ms := by
      refine ⟨?_, q2, q3, q4, q5, q6⟩
      obtain ⟨t, ht, -⟩ := State.frames_cons hr
      show ({ U with heap := s₂.heap, slotsUsed := s₂.slotsUsed } : State) = { U.setFrames U.frames with heap := s₂.heap, slotsUsed := s₂.slotsUsed }
      rw [State.setFrames_self ht]
    subst hg
    refine Or.inr ⟨q, ⟨(({ U with heap := s₂.heap, slotsUsed := s₂.slotsUsed } : State).setVm s₂.vm), Ls ++ L, c0 + mc, s0 + ms⟩,
      ⟨X.admits, X.cas, X.clock, X.frames, X.room, X.hears, X.method, X.code, (X.here.setHeapUsed s₂.heap s₂.slotsUsed).setVm hW'.alike, X.tail, State.WarmedH.trans X.warmed hW', X.limits, X.bytes, X.same.trans (hsame.setVm s.vm)⟩,
      ⟨g, mk, s₂, L, E, ce, rfl, rfl, hx, hce, hcv, hcl, rfl, hL, rfl, rfl⟩, ?_⟩
    show Steps p.tables e below _ (((({ U with heap := s₂.heap, slotsUsed := s₂.slotsUsed } : State).setVm s₂.vm).setTop g).pushFrame (.throwing q))
    rw [← hs₂]
    exact hsteps
end
variable {p : Program} {l : Launch} {e : Env} {R : Room} {s : State} {m : MethodId} {args : Array Value} {below : List Frame} {meth : Method} {c : Code} {T : State} {H : Heap} {locs : List Loc} {cells slots : Nat}
theorem vx_callVX (X : Stand p l e R s m args below meth c T locs cells slots) (hexec : p.tables.exec = Jvm.exec) {own C : String} {index : Nat} {y : MethodName} {bytes : ByteArray} {maxL : Nat} {ret : Option FieldType} {hh : List (Nat × Nat × Nat × Nat)}
    (hown : s.vm.findClass own = some m.cls) (hlink : (Cond.methodLink own index y).before args s = true) (hinst : (Cond.instanceMethod y).before args s = true) (hsel : (Cond.selects C y y).before args s = true)
    (hcode : (Cond.codeWith y bytes maxL ret hh).before args s = true) (hy : y.cls ≠ "java/lang/invoke/MethodHandle" ∧ y.cls ≠ "java/lang/invoke/VarHandle")
    {W9 : Nat} {Pre : Pt → Array Value → Prop} {Post : Pt → Array Value → Option Value → Pt → Prop} {PostX : Pt → Array Value → Addr → Pt → Prop} (hK : vx_Back l R p e below s args y 3 W9 Pre Post PostX)
    {b : Addr} {cellB : Cell} (hcell : T.heap[b]? = some cellB) (hobj : cellB.vm.isStatics = false) (hcls : s.vm.findClass C = some cellB.cls)
    {g : JFrame} (hg : g.method = m) (hsize : g.locals.size = c.maxLocals) {argsL rest : List Value} (hlen : ∀ sig, parseMethodDescriptor y.desc = some sig → argsL.length = sig.parameters.length)
    (hstack : g.stack = argsL.reverse ++ .ref b :: rest) (hW : 2 * g.monitorRoom + (rest.map fun v => v.category).sum ≤ W9) (hdg : decode c.code g.pc = .ok (.invokevirtual index, 3))
    (hpre : ∀ vm₁, s.WarmedH vm₁ → Pre ⟨T.setVm vm₁, locs, cells, slots⟩ (Value.ref b :: argsL).toArray) :
    (∃ (v : Option Value) (vm₁ : Vm) (B : Pt), s.WarmedH vm₁ ∧ Stand p l e R s m args below meth c B.U B.locs B.cells B.slots ∧ Post ⟨T.setVm vm₁, locs, cells, slots⟩ (Value.ref b :: argsL).toArray v B ∧
      ∀ target, Steps p.tables e below (B.U.setTop { g with pc := g.pc + 3, stack := v.toList ++ rest }) target → Steps p.tables e below (T.setTop g) target) ∨
    (∃ (q : Addr) (vm₁ : Vm) (B : Pt), s.WarmedH vm₁ ∧ Stand p l e R s m args below meth c B.U B.locs B.cells B.slots ∧ PostX ⟨T.setVm vm₁, locs, cells, slots⟩ (Value.ref b :: argsL).toArray q B ∧
      Steps p.tables e below (T.setTop g) ((B.U.setTop { g with stack := rest }).pushFrame (.throwing q))) := by
  obtain ⟨mk, methM, hnamed, hmethM, hstM, habM⟩ := Cond.instanceMethod_spec hinst
  obtain ⟨m8, methM', cM, hn8, hmethM', -, -, -, -, -, -, hsigM⟩ := Cond.codeWith_spec hcode
  cases Option.some.inj (hn8.symm.trans hnamed)
  cases hmethM.symm.trans hmethM'
  obtain ⟨c2, r2, m2, q1, q2, q3, q4, kP, hkP, hkPi⟩ := Cond.selects_spec hsel
  cases hcls.symm.trans q1
  cases (State.methodFound?_of_named hnamed hy).symm.trans q2
  cases hnamed.symm.trans q3
  have hselP : selectMethod e.platform s.vm cellB.cls mk = .method mk := by rw [Launch.admits_selectMethod X.admits]; exact q4
  obtain ⟨vm₁, X₁, hstep₁⟩ := X.invokevirtual hexec hown hlink hnamed hmethM hstM hkP hkPi hy (a := b) (cell := cellB) hcell
    (fun z h => by rw [h] at hobj; cases hobj) hselP hmethM habM hkP hkPi (g := g) hg (argsL := argsL) (rest := rest) (hlen _ hsigM) hstack hdg
  rcases hK m meth c ⟨T.setVm vm₁, locs, cells, slots⟩ { g with stack := rest } (.invokevirtual index) mk (Value.ref b :: argsL).toArray X₁ hg hsize hdg hW (X₁.named hnamed) (hpre vm₁ X₁.warmed) with ⟨v, B, X', hpost, hsteps⟩ | ⟨q, B, X', hpost, hsteps⟩
  · exact Or.inl ⟨v, vm₁, B, X₁.warmed, X', hpost, fun target h => hstep₁ _ fun acts => by rw [doInvoke_state]; exact hsteps.trans h⟩
  · exact Or.inr ⟨q, vm₁, B, X₁.warmed, X', hpost, hstep₁ _ fun acts => by rw [doInvoke_state]; exact hsteps⟩
theorem vx_callSX (X : Stand p l e R s m args below meth c T locs cells slots) (hexec : p.tables.exec = Jvm.exec) {own : String} {index : Nat} {y : MethodName} {bytes : ByteArray} {maxL : Nat} {ret : Option FieldType} {hh : List (Nat × Nat × Nat × Nat)}
    (hown : s.vm.findClass own = some m.cls) (hlink : (Cond.methodLink own index y).before args s = true) (hstat : (Cond.static y).before args s = true) (hinit : (Cond.initialized y.cls).before args s = true)
    (hcode : (Cond.codeWith y bytes maxL ret hh).before args s = true) (hy : y.cls ≠ "java/lang/invoke/MethodHandle" ∧ y.cls ≠ "java/lang/invoke/VarHandle")
    {W9 : Nat} {Pre : Pt → Array Value → Prop} {Post : Pt → Array Value → Option Value → Pt → Prop} {PostX : Pt → Array Value → Addr → Pt → Prop} (hK : vx_Back l R p e below s args y 3 W9 Pre Post PostX)
    {g : JFrame} (hg : g.method = m) (hsize : g.locals.size = c.maxLocals) {argsL rest : List Value} (hlen : ∀ sig, parseMethodDescriptor y.desc = some sig → argsL.length = sig.parameters.length)
    (hstack : g.stack = argsL.reverse ++ rest) (hW : 2 * g.monitorRoom + (rest.map fun v => v.category).sum ≤ W9) (hdg : decode c.code g.pc = .ok (.invokestatic index, 3))
    (hpre : ∀ vm₁, s.WarmedH vm₁ → Pre ⟨T.setVm vm₁, locs, cells, slots⟩ argsL.toArray) :
    (∃ (v : Option Value) (vm₁ : Vm) (B : Pt), s.WarmedH vm₁ ∧ Stand p l e R s m args below meth c B.U B.locs B.cells B.slots ∧ Post ⟨T.setVm vm₁, locs, cells, slots⟩ argsL.toArray v B ∧
      ∀ target, Steps p.tables e below (B.U.setTop { g with pc := g.pc + 3, stack := v.toList ++ rest }) target → Steps p.tables e below (T.setTop g) target) ∨
    (∃ (q : Addr) (vm₁ : Vm) (B : Pt), s.WarmedH vm₁ ∧ Stand p l e R s m args below meth c B.U B.locs B.cells B.slots ∧ PostX ⟨T.setVm vm₁, locs, cells, slots⟩ argsL.toArray q B ∧
      Steps p.tables e below (T.setTop g) ((B.U.setTop { g with stack := rest }).pushFrame (.throwing q))) := by
  obtain ⟨mk, methM, cM, hnamed, hmethM, -, -, -, -, -, -, hsigM⟩ := Cond.codeWith_spec hcode
  have hstatic : methM.isStatic = true := Cond.static_spec hnamed hmethM hstat
  obtain ⟨kP, hkP, -⟩ := className_of_methodNamed hnamed
  have hinitP : kP.init = .initialized := Cond.initialized_spec (findClass_of_methodNamed hnamed) hkP hinit
  obtain ⟨vm₁, X₁, hstep₁⟩ := X.invokestatic hexec hown hlink hnamed hmethM hstatic hkP hinitP hy (g := g) hg (argsL := argsL) (rest := rest) (hlen _ hsigM) hstack hdg
  rcases hK m meth c ⟨T.setVm vm₁, locs, cells, slots⟩ { g with stack := rest } (.invokestatic index) mk argsL.toArray X₁ hg hsize hdg hW (X₁.named hnamed) (hpre vm₁ X₁.warmed) with ⟨v, B, X', hpost, hsteps⟩ | ⟨q, B, X', hpost, hsteps⟩
  · exact Or.inl ⟨v, vm₁, B, X₁.warmed, X', hpost, fun target h => hstep₁ _ fun acts => by rw [doInvoke_state]; exact hsteps.trans h⟩
  · exact Or.inr ⟨q, vm₁, B, X₁.warmed, X', hpost, hstep₁ _ fun acts => by rw [doInvoke_state]; exact hsteps⟩
theorem vx_callVW (X : Stand p l e R s m args below meth c T locs cells slots) (hexec : p.tables.exec = Jvm.exec) {own C : String} {index : Nat} {y : MethodName} {bytes : ByteArray} {maxL : Nat} {ret : Option FieldType} {hh : List (Nat × Nat × Nat × Nat)}
    (hown : s.vm.findClass own = some m.cls) (hlink : (Cond.methodLink own index y).before args s = true) (hinst : (Cond.instanceMethod y).before args s = true) (hsel : (Cond.selects C y y).before args s = true)
    (hcode : (Cond.codeWith y bytes maxL ret hh).before args s = true) (hy : y.cls ≠ "java/lang/invoke/MethodHandle" ∧ y.cls ≠ "java/lang/invoke/VarHandle")
    {W9 : Nat} {Pre : Pt → Array Value → Prop} {Post : Pt → Array Value → Option Value → Pt → Prop} (hK : Back l R p e below s args y 3 W9 Pre Post)
    {b : Addr} {cellB : Cell} (hcell : T.heap[b]? = some cellB) (hobj : cellB.vm.isStatics = false) (hcls : s.vm.findClass C = some cellB.cls)
    {g : JFrame} (hg : g.method = m) (hsize : g.locals.size = c.maxLocals) {argsL rest : List Value} (hlen : ∀ sig, parseMethodDescriptor y.desc = some sig → argsL.length = sig.parameters.length)
    (hstack : g.stack = argsL.reverse ++ .ref b :: rest) (hW : 2 * g.monitorRoom + (rest.map fun v => v.category).sum ≤ W9) (hdg : decode c.code g.pc = .ok (.invokevirtual index, 3))
    (hpre : ∀ vm₁, s.WarmedH vm₁ → Pre ⟨T.setVm vm₁, locs, cells, slots⟩ (Value.ref b :: argsL).toArray) :
    ∃ (v : Option Value) (vm₁ : Vm) (B : Pt), s.WarmedH vm₁ ∧ Stand p l e R s m args below meth c B.U B.locs B.cells B.slots ∧ Post ⟨T.setVm vm₁, locs, cells, slots⟩ (Value.ref b :: argsL).toArray v B ∧
      ∀ target, Steps p.tables e below (B.U.setTop { g with pc := g.pc + 3, stack := v.toList ++ rest }) target → Steps p.tables e below (T.setTop g) target := by
  obtain ⟨mk, methM, hnamed, hmethM, hstM, habM⟩ := Cond.instanceMethod_spec hinst
  obtain ⟨m8, methM', cM, hn8, hmethM', -, -, -, -, -, -, hsigM⟩ := Cond.codeWith_spec hcode
  cases Option.some.inj (hn8.symm.trans hnamed)
  cases hmethM.symm.trans hmethM'
  obtain ⟨c2, r2, m2, q1, q2, q3, q4, kP, hkP, hkPi⟩ := Cond.selects_spec hsel
  cases hcls.symm.trans q1
  cases (State.methodFound?_of_named hnamed hy).symm.trans q2
  cases hnamed.symm.trans q3
  have hselP : selectMethod e.platform s.vm cellB.cls mk = .method mk := by rw [Launch.admits_selectMethod X.admits]; exact q4
  obtain ⟨vm₁, X₁, hstep₁⟩ := X.invokevirtual hexec hown hlink hnamed hmethM hstM hkP hkPi hy (a := b) (cell := cellB) hcell
    (fun z h => by rw [h] at hobj; cases hobj) hselP hmethM habM hkP hkPi (g := g) hg (argsL := argsL) (rest := rest) (hlen _ hsigM) hstack hdg
  obtain ⟨v, B, X', hpost, hsteps⟩ := hK m meth c ⟨T.setVm vm₁, locs, cells, slots⟩ { g with stack := rest } (.invokevirtual index) mk (Value.ref b :: argsL).toArray X₁ hg hsize hdg hW (X₁.named hnamed) (hpre vm₁ X₁.warmed)
  exact ⟨v, vm₁, B, X₁.warmed, X', hpost, fun target h => hstep₁ _ fun acts => by rw [doInvoke_state]; exact hsteps.trans h⟩
abbrev vx_CVW (R : Room) (s : State) (args : Array Value) (own C : String) (index : Nat) (y : MethodName) (bytes : ByteArray) (maxL : Nat) (ret : Option FieldType) (hh : List (Nat × Nat × Nat × Nat)) (ws : List Cond) (rm : Room) (mc ms n : Nat) : Prop :=
  (rm.cells = mc ∧ rm.slots = ms ∧ rm.frames + 1 ≤ R.frames ∧ 8 + (maxL + 11) + rm.locals ≤ R.locals ∧ (∀ w ∈ ws, ∀ (a' : Array Value) (U : State), s.WarmedH U.vm → w.before a' U = true) ∧ Cond.codeWith y bytes maxL ret hh ∈ ws) ∧
  (Cond.codeWith y bytes maxL ret hh).before args s = true ∧ (Cond.initialized y.cls).before args s = true ∧ (y.cls ≠ "java/lang/invoke/MethodHandle" ∧ y.cls ≠ "java/lang/invoke/VarHandle") ∧
  (∀ sig, parseMethodDescriptor y.desc = some sig → n = sig.parameters.length) ∧ (Cond.methodLink own index y).before args s = true ∧ (Cond.instanceMethod y).before args s = true ∧ (Cond.selects C y y).before args s = true
theorem vx_cwVW {own C : String} {index maxL mc ms : Nat} {y : MethodName} {bytes : ByteArray} {ret : Option FieldType} {hh : List (Nat × Nat × Nat × Nat)} {Ts ws ws' : List Cond} {rm : Room} (n : Nat) (ht : ∀ w ∈ Ts, w.before args s = true) (hT : GoodIn Ts (wsV own index C y ws)) (hw : ws = Cond.codeWith y bytes maxL ret hh :: ws') (hrc : rm.cells = mc) (hrs : rm.slots = ms)
    (hd : y.cls = C ∧ y.cls ≠ "java/lang/invoke/MethodHandle" ∧ y.cls ≠ "java/lang/invoke/VarHandle" ∧ (parseMethodDescriptor y.desc).map (fun d => d.parameters.length) = some n) (hR : rm.frames + 1 ≤ R.frames ∧ 8 + (maxL + 11) + rm.locals ≤ R.locals) :
    vx_CVW R s args own C index y bytes maxL ret hh ws rm mc ms n := by
  obtain ⟨hC, hd⟩ := hd
  subst hC
  have ok : ∀ w ∈ wsV own index y.cls y ws, w.before args s = true := fun w h => ht w (hT w h).1
  have hG : GoodIn Ts ws := fun w h => hT w (by unfold wsV; exact List.mem_append_right _ h)
  have hc : Cond.codeWith y bytes maxL ret hh ∈ ws := by rw [hw]; exact List.mem_cons_self
  refine ⟨⟨hrc, hrs, hR.1, hR.2, pay_in ht hG, hc⟩, ht _ (hG _ hc).1, ok _ (by simp [wsV]), ⟨hd.1, hd.2.1⟩, fun sig h => ?_, ok _ (by simp [wsV]), ok _ (by simp [wsV]), ok _ (by simp [wsV])⟩
  have h2 := hd.2.2
  rw [h] at h2
  exact (Option.some.inj h2).symm
theorem vx_runVW {y : MethodName} {bytes cc : ByteArray} {maxL nL mc ms n index : Nat} {ret : Option FieldType} {hh : List (Nat × Nat × Nat × Nat)} {ws : List Cond} {rm : Room} {Pc : Array Value → State → Prop} {Qc : Array Value → State → Outcome → State → Prop} {free : Addr → Prop} {Ts : List Cond} {own C : String} {b : Addr} {As rest : List Value} {g : JFrame}
    (S : CallFix p m c cc nL s args Ts own) (hM : Met l y ws rm Pc Qc mc ms free) (cw : vx_CVW R s args own C index y bytes maxL ret hh ws rm mc ms n) (hp : PreV s H C b Pc As)
    (hg : g.method = m) (hn : As.length = n) (hsize : g.locals.size = nL) (hstack : g.stack = As.reverse ++ .ref b :: rest) (hW : 2 * g.monitorRoom + (rest.map fun v => v.category).sum ≤ 8) (hdg : decode cc g.pc = .ok (.invokevirtual index, 3)) (hf : cells + mc ≤ R.cells ∧ slots + ms ≤ R.slots) :
    va_Run p l e R s m args below meth c H locs cells slots mc ms g rest (Qc (Value.ref b :: As).toArray) free := by
  obtain ⟨⟨hrc, hrs, hfr, hlo, hws, hcw⟩, hcode, hini, hy, hlen, hl, hin, hse⟩ := cw
  have hK : Back l R p e below s args y 3 8 (PreOf R mc ms Pc) (PostOf Qc mc ms free) := va_backW (hh := hh) (bytes := bytes) (maxL := maxL) (ret := ret) hM hp.1 hrc hrs hfr hlo hws hcw (fun a' U hW => word_at hW (Or.inl (by first | rfl | simp [Cond.onTables, Cond.keeps, Cond.steady])) hini)
  obtain ⟨hx, hb, hml, ho, -⟩ := S
  obtain ⟨-, ⟨cellB, hcB, hoB, hclB⟩, hPc⟩ := hp
  intro T hT X
  obtain ⟨v, vm₁, ⟨U', l2, c2, s2⟩, hW₁, X', ⟨g', mk, t, L, e1, e2, hq, h1, hL, h2, h3⟩, st⟩ := vx_callVW X hx (C := C) (hh := hh) (bytes := bytes) (maxL := maxL) (ret := ret) ho hl hin hse hcode hy hK (by rw [hT]; exact hcB) hoB hclB hg (hsize.trans hml.symm) (argsL := As) (rest := rest) (fun sig h => hn.trans (hlen sig h)) hstack hW (by rw [hb]; exact hdg)
    (fun vm₁ hW₁ => ⟨hf.1, hf.2, hPc (T.setVm vm₁) hT hW₁⟩)
  dsimp only [Pt.U, Pt.locs, Pt.cells, Pt.slots] at X' e1 e2 h1 h2 h3 st
  subst h1; subst h2; subst h3
  exact ⟨v, (T.setVm vm₁).calling g' mk (Value.ref b :: As).toArray, t, U', L, hT, X', hL, e1, e2, hq, st⟩
section
variable {y : MethodName} {bytes cc : ByteArray} {maxL nL mc ms n index : Nat} {ret : Option FieldType} {ws : List Cond} {rm : Room} {Pc : Array Value → State → Prop} {Qc : Array Value → State → Outcome → State → Prop} {XC : String → State → State → Prop} {free : Addr → Prop} {Ts : List Cond} {own C : String} {b : Addr} {As rest : List Value} {g : JFrame}
theorem vx_runVX {hh : List (Nat × Nat × Nat × Nat)} (S : CallFix p m c cc nL s args Ts own) (hM : vx_Met l y ws rm Pc Qc XC mc ms free) (cw : vx_CVW R s args own C index y bytes maxL ret hh ws rm mc ms n) (hp : PreV s H C b Pc As)
    (hg : g.method = m) (hn : As.length = n) (hsize : g.locals.size = nL) (hstack : g.stack = As.reverse ++ .ref b :: rest) (hW : 2 * g.monitorRoom + (rest.map fun v => v.category).sum ≤ 8) (hdg : decode cc g.pc = .ok (.invokevirtual index, 3)) (hf : cells + mc ≤ R.cells ∧ slots + ms ≤ R.slots) :
    vx_Run p l e R s m args below meth c H locs cells slots mc ms g rest (Qc (Value.ref b :: As).toArray) XC free := by
  obtain ⟨⟨hrc, hrs, hfr, hlo, hws, hcw⟩, hcode, hini, hy, hlen, hl, hin, hse⟩ := cw
  have hK : vx_Back l R p e below s args y 3 8 (PreOf R mc ms Pc) (PostOf Qc mc ms free) (vx_Post XC mc ms free) := vx_backW (hh := hh) (bytes := bytes) (maxL := maxL) (ret := ret) hM hp.1 hrc hrs hfr hlo hws hcw (fun a' U hW => word_at hW (Or.inl (by first | rfl | simp [Cond.onTables, Cond.keeps, Cond.steady])) hini)
  obtain ⟨hx, hb, hml, ho, -⟩ := S
  obtain ⟨-, ⟨cellB, hcB, hoB, hclB⟩, hPc⟩ := hp
  intro T hT X
  rcases vx_callVX X hx (C := C) (hh := hh) (bytes := bytes) (maxL := maxL) (ret := ret) ho hl hin hse hcode hy hK (by rw [hT]; exact hcB) hoB hclB hg (hsize.trans hml.symm) (argsL := As) (rest := rest) (fun sig h => hn.trans (hlen sig h)) hstack hW (by rw [hb]; exact hdg)
    (fun vm₁ hW₁ => ⟨hf.1, hf.2, hPc (T.setVm vm₁) hT hW₁⟩) with ⟨v, vm₁, ⟨U', l2, c2, s2⟩, hW₁, X', ⟨g', mk, t, L, e1, e2, hq, h1, hL, h2, h3⟩, st⟩ | ⟨q, vm₁, ⟨U', l2, c2, s2⟩, hW₁, X', ⟨g', mk, t, L, E, ce, e1, e2, hq, hce, hcv, hcl, h1, hL, h2, h3⟩, st⟩
  · dsimp only [Pt.U, Pt.locs, Pt.cells, Pt.slots] at X' e1 e2 h1 h2 h3 st
    subst h1; subst h2; subst h3
    exact Or.inl ⟨v, (T.setVm vm₁).calling g' mk (Value.ref b :: As).toArray, t, U', L, hT, X', hL, e1, e2, hq, st⟩
  · dsimp only [Pt.U, Pt.locs, Pt.cells, Pt.slots] at X' e1 e2 h1 h2 h3 st hcl
    subst h1; subst h2; subst h3
    exact Or.inr ⟨q, (T.setVm vm₁).calling g' mk (Value.ref b :: As).toArray, t, U', L, E, ce, hT, X', hL, e1, e2, hq, hce, hcv, vx_cls hW₁ hcl, st⟩
theorem vx_runSX {hh : List (Nat × Nat × Nat × Nat)} (S : CallFix p m c cc nL s args Ts own) (hM : vx_Met l y ws rm Pc Qc XC mc ms free) (cw : vx_CSW R s args own index y bytes maxL ret hh ws rm mc ms n) (hp : PreS s H Pc As)
    (hg : g.method = m) (hn : As.length = n) (hsize : g.locals.size = nL) (hstack : g.stack = As.reverse ++ rest) (hW : 2 * g.monitorRoom + (rest.map fun v => v.category).sum ≤ 8) (hdg : decode cc g.pc = .ok (.invokestatic index, 3)) (hf : cells + mc ≤ R.cells ∧ slots + ms ≤ R.slots) :
    vx_Run p l e R s m args below meth c H locs cells slots mc ms g rest (Qc As.toArray) XC free := by
  obtain ⟨⟨hrc, hrs, hfr, hlo, hws, hcw⟩, hcode, hini, hy, hlen, hl, hstt⟩ := cw
  have hK : vx_Back l R p e below s args y 3 8 (PreOf R mc ms Pc) (PostOf Qc mc ms free) (vx_Post XC mc ms free) := vx_backW (hh := hh) (bytes := bytes) (maxL := maxL) (ret := ret) hM hp.1 hrc hrs hfr hlo hws hcw (fun a' U hW => word_at hW (Or.inl (by first | rfl | simp [Cond.onTables, Cond.keeps, Cond.steady])) hini)
  obtain ⟨hx, hb, hml, ho, -⟩ := S
  intro T hT X
  rcases vx_callSX X hx (hh := hh) (bytes := bytes) (maxL := maxL) (ret := ret) ho hl hstt hini hcode hy hK hg (hsize.trans hml.symm) (argsL := As) (rest := rest) (fun sig h => hn.trans (hlen sig h)) hstack hW (by rw [hb]; exact hdg)
    (fun vm₁ hW₁ => ⟨hf.1, hf.2, hp.2 (T.setVm vm₁) hT hW₁⟩) with ⟨v, vm₁, ⟨U', l2, c2, s2⟩, hW₁, X', ⟨g', mk, t, L, e1, e2, hq, h1, hL, h2, h3⟩, st⟩ | ⟨q, vm₁, ⟨U', l2, c2, s2⟩, hW₁, X', ⟨g', mk, t, L, E, ce, e1, e2, hq, hce, hcv, hcl, h1, hL, h2, h3⟩, st⟩
  · dsimp only [Pt.U, Pt.locs, Pt.cells, Pt.slots] at X' e1 e2 h1 h2 h3 st
    subst h1; subst h2; subst h3
    exact Or.inl ⟨v, (T.setVm vm₁).calling g' mk As.toArray, t, U', L, hT, X', hL, e1, e2, hq, st⟩
  · dsimp only [Pt.U, Pt.locs, Pt.cells, Pt.slots] at X' e1 e2 h1 h2 h3 st hcl
    subst h1; subst h2; subst h3
    exact Or.inr ⟨q, (T.setVm vm₁).calling g' mk As.toArray, t, U', L, E, ce, hT, X', hL, e1, e2, hq, hce, hcv, vx_cls hW₁ hcl, st⟩
end
end VXH
theorem vx_ofWH {l : Launch} {y : MethodName} {ws ws' : List Cond} {rm : Room} {Pc : Array Value → State → Prop} {Qc : Array Value → State → Outcome → State → Prop} {XC : String → State → State → Prop} {mc ms : Nat} {free : Addr → Prop} {cc : ByteArray} {maxL : Nat} {ret : Option FieldType} {hh : List (Nat × Nat × Nat × Nat)}
    (hy : plainName y.cls = true) (hw : ws = Cond.codeWith y cc maxL ret hh :: ws')
    (body : ∀ p e s m args below meth c s₁, BodyLoose p l y (headSpec ws rm) cc maxL ret e s m args below meth c s₁ → c.maxLocals = maxL → Pc args s →
      W p l e (headSpec ws rm).room s m args below meth c s.heap [] 0 0 (vx_MQ below Qc XC args s mc ms free) (entryFrame m args maxL)) : vx_Met l y ws rm Pc Qc XC mc ms free := by
  refine MetFree.of_bodyS (code := cc) (maxLocals := maxL) (ret := ret) hy ?_ ?_
  · intro args s m h hn
    obtain ⟨m9, meth, c, hn9, h1, h2, h3, h4, -, h5, h6, -⟩ := Cond.codeWith_spec (atoms_spec (ws := ws) h _ (by rw [hw]; exact List.mem_cons_self))
    cases hn.symm.trans hn9
    exact ⟨meth, c, h1, h2, h3, h4, h5, h6⟩
  · intro p e s m args below meth c s₁ B hml hP _
    have hh0 : s₁.heap = s.heap := by rw [B.state]; rfl
    obtain ⟨t, a1, o, b1, b2, b3⟩ := body p e s m args below meth c s₁ B hml hP s₁ hh0 (Stand.of_body B)
    exact ⟨t, o, a1, b1, b2, b3⟩
/-! ===== END ===== -/
end
section
/-! ===== BEGIN printed: names, fields, word lists, decode rows ===== -/
def RX0 : String := "CarTangos$Explorer"
def TX0 : u_T := fun k => match k with
  | 0 => ("CarTangos$Explorer", "lengths", "[I", true)
  | 1 => ("CarTangos$Explorer", "taken", "[I", true)
  | 2 => ("CarTangos$Explorer", "costs", "[I", true)
  | 3 => ("CarTangos$Explorer", "found", "[I", true)
  | 4 => ("CarTangos$Explorer", "buckets", "[I", true)
  | 5 => ("CarTangos$Explorer", "filled", "[I", true)
  | 6 => ("CarTangos$Explorer", "cars", "I", false)
  | 7 => ("CarTangos$Explorer", "size", "I", false)
  | 8 => ("CarTangos$Explorer", "start", "I", false)
  | 9 => ("CarTangos$Explorer", "foundCount", "I", false)
  | 10 => ("CarTangos$Explorer", "nextCarOfPlan", "I", false)
  | _ => ("CarTangos$Explorer", "nextChangeOfPlan", "I", false)
def tyX0 : Nat → FieldType := fun k => match k with
  | 0 => .array .int
  | 1 => .array .int
  | 2 => .array .int
  | 3 => .array .int
  | 4 => .array .int
  | 5 => .array .int
  | 6 => .int
  | 7 => .int
  | 8 => .int
  | 9 => .int
  | 10 => .int
  | _ => .int
abbrev wsX00 : List Cond := u_ws RX0 TX0 12
theorem nmX0 : ∀ a, a < 12 → ∀ b, b < 12 → a ≠ b → (TX0 a).2.1 ≠ (TX0 b).2.1 := by decide +kernel
theorem tyX0_ok : ∀ k, k < 12 → parseFieldDescriptor (TX0 k).2.2.1 = some (tyX0 k) := by decide +kernel
abbrev cX0_init : ByteArray := prog_2_method_1_code
def yX0_init : MethodName := ⟨RX0, "<init>", "()V"⟩
abbrev cX0_load : ByteArray := prog_2_method_2_code
def yX0_load : MethodName := ⟨RX0, "load", "(LCarTangos$Park;II)V"⟩
abbrev cX0_addToTable : ByteArray := prog_2_method_3_code
def yX0_addToTable : MethodName := ⟨RX0, "addToTable", "(II)V"⟩
abbrev cX0_together : ByteArray := prog_2_method_4_code
def yX0_together : MethodName := ⟨RX0, "together", "(II)I"⟩
abbrev cX0_exists : ByteArray := prog_2_method_5_code
def yX0_exists : MethodName := ⟨RX0, "exists", "(I)Z"⟩
abbrev cX0_isOutIn : ByteArray := prog_2_method_6_code
def yX0_isOutIn : MethodName := ⟨RX0, "isOutIn", "(I)Z"⟩
abbrev cX0_allArrangements : ByteArray := prog_2_method_7_code
def yX0_allArrangements : MethodName := ⟨RX0, "allArrangements", "()I"⟩
abbrev cX0_behindStep : ByteArray := prog_2_method_8_code
def yX0_behindStep : MethodName := ⟨RX0, "behindStep", "(III)I"⟩
abbrev cX0_behindSlide : ByteArray := prog_2_method_9_code
def yX0_behindSlide : MethodName := ⟨RX0, "behindSlide", "(III)I"⟩
abbrev cX0_costOf : ByteArray := prog_2_method_10_code
def yX0_costOf : MethodName := ⟨RX0, "costOf", "(I)I"⟩
abbrev cX0_forget : ByteArray := prog_2_method_11_code
def yX0_forget : MethodName := ⟨RX0, "forget", "()V"⟩
abbrev cX0_find : ByteArray := prog_2_method_12_code
def yX0_find : MethodName := ⟨RX0, "find", "(II)V"⟩
abbrev cX0_spread : ByteArray := prog_2_method_13_code
def yX0_spread : MethodName := ⟨RX0, "spread", "(I)V"⟩
abbrev cX0_spreadAlong : ByteArray := prog_2_method_14_code
def yX0_spreadAlong : MethodName := ⟨RX0, "spreadAlong", "(IIIII)V"⟩
abbrev cX0_spreadFromStart : ByteArray := prog_2_method_15_code
def yX0_spreadFromStart : MethodName := ⟨RX0, "spreadFromStart", "(I)V"⟩
abbrev cX0_slidesFromStart : ByteArray := prog_2_method_16_code
def yX0_slidesFromStart : MethodName := ⟨RX0, "slidesFromStart", "()I"⟩
abbrev cX0_stepsFromStart : ByteArray := prog_2_method_17_code
def yX0_stepsFromStart : MethodName := ⟨RX0, "stepsFromStart", "()I"⟩
abbrev cX0_slidesFromEnds : ByteArray := prog_2_method_18_code
def yX0_slidesFromEnds : MethodName := ⟨RX0, "slidesFromEnds", "()I"⟩
abbrev cX0_leastCostOut : ByteArray := prog_2_method_19_code
def yX0_leastCostOut : MethodName := ⟨RX0, "leastCostOut", "()I"⟩
abbrev cX0_foundOut : ByteArray := prog_2_method_20_code
def yX0_foundOut : MethodName := ⟨RX0, "foundOut", "()I"⟩
abbrev cX0_farthestFound : ByteArray := prog_2_method_21_code
def yX0_farthestFound : MethodName := ⟨RX0, "farthestFound", "()I"⟩
abbrev cX0_findNextSlide : ByteArray := prog_2_method_22_code
def yX0_findNextSlide : MethodName := ⟨RX0, "findNextSlide", "(I)Z"⟩
abbrev cX0_fuelByBuckets : ByteArray := prog_2_method_23_code
def yX0_fuelByBuckets : MethodName := ⟨RX0, "fuelByBuckets", "()I"⟩
abbrev cX0_isAnyFilled : ByteArray := prog_2_method_24_code
def yX0_isAnyFilled : MethodName := ⟨RX0, "isAnyFilled", "()Z"⟩
abbrev cX0_inBucket : ByteArray := prog_2_method_25_code
def yX0_inBucket : MethodName := ⟨RX0, "inBucket", "(II)I"⟩
abbrev cX0_hasOutFor : ByteArray := prog_2_method_26_code
def yX0_hasOutFor : MethodName := ⟨RX0, "hasOutFor", "(I)Z"⟩
abbrev cX0_emptyBucket : ByteArray := prog_2_method_27_code
def yX0_emptyBucket : MethodName := ⟨RX0, "emptyBucket", "(I)V"⟩
abbrev cX0_cheapen : ByteArray := prog_2_method_28_code
def yX0_cheapen : MethodName := ⟨RX0, "cheapen", "(II)V"⟩
abbrev cX0_isCheaper : ByteArray := prog_2_method_29_code
def yX0_isCheaper : MethodName := ⟨RX0, "isCheaper", "(II)Z"⟩
abbrev cX0_fuelByRounds : ByteArray := prog_2_method_30_code
def yX0_fuelByRounds : MethodName := ⟨RX0, "fuelByRounds", "()I"⟩
abbrev cX0_hasCheapenedAround : ByteArray := prog_2_method_31_code
def yX0_hasCheapenedAround : MethodName := ⟨RX0, "hasCheapenedAround", "(I)Z"⟩
def RX1 : String := "CarTangos$Park"
def TX1 : u_T := fun k => match k with
  | 0 => ("CarTangos$Park", "lanes", "[I", true)
  | 1 => ("CarTangos$Park", "places", "[I", true)
  | 2 => ("CarTangos$Park", "lengths", "[I", true)
  | 3 => ("CarTangos$Park", "loggedCars", "[I", true)
  | 4 => ("CarTangos$Park", "loggedChanges", "[I", true)
  | 5 => ("CarTangos$Park", "cars", "I", false)
  | 6 => ("CarTangos$Park", "walls", "I", false)
  | 7 => ("CarTangos$Park", "logged", "I", false)
  | 8 => ("CarTangos$Park", "hasStop", "Z", false)
  | _ => ("CarTangos$Park", "stop", "I", false)
def tyX1 : Nat → FieldType := fun k => match k with
  | 0 => .array .int
  | 1 => .array .int
  | 2 => .array .int
  | 3 => .array .int
  | 4 => .array .int
  | 5 => .int
  | 6 => .int
  | 7 => .int
  | 8 => .boolean
  | _ => .int
abbrev wsX10 : List Cond := u_ws RX1 TX1 10
theorem nmX1 : ∀ a, a < 10 → ∀ b, b < 10 → a ≠ b → (TX1 a).2.1 ≠ (TX1 b).2.1 := by decide +kernel
theorem tyX1_ok : ∀ k, k < 10 → parseFieldDescriptor (TX1 k).2.2.1 = some (tyX1 k) := by decide +kernel
abbrev cX1_init : ByteArray := prog_3_method_1_code
def yX1_init : MethodName := ⟨RX1, "<init>", "()V"⟩
abbrev cX1_become : ByteArray := prog_3_method_2_code
def yX1_become : MethodName := ⟨RX1, "become", "(LCarTangos$Park;)V"⟩
abbrev cX1_hasCar : ByteArray := prog_3_method_3_code
def yX1_hasCar : MethodName := ⟨RX1, "hasCar", "(I)Z"⟩
abbrev cX1_hasSlide : ByteArray := prog_3_method_4_code
def yX1_hasSlide : MethodName := ⟨RX1, "hasSlide", "(I)Z"⟩
abbrev cX1_hasWallAt : ByteArray := prog_3_method_5_code
def yX1_hasWallAt : MethodName := ⟨RX1, "hasWallAt", "(I)Z"⟩
abbrev cX1_carAt : ByteArray := prog_3_method_6_code
def yX1_carAt : MethodName := ⟨RX1, "carAt", "(I)I"⟩
abbrev cX1_takenCells : ByteArray := prog_3_method_7_code
def yX1_takenCells : MethodName := ⟨RX1, "takenCells", "()I"⟩
abbrev cX1_isRedOut : ByteArray := prog_3_method_8_code
def yX1_isRedOut : MethodName := ⟨RX1, "isRedOut", "()Z"⟩
abbrev cX1_roomOf : ByteArray := prog_3_method_9_code
def yX1_roomOf : MethodName := ⟨RX1, "roomOf", "(II)I"⟩
abbrev cX1_troubleOfEntering : ByteArray := prog_3_method_10_code
def yX1_troubleOfEntering : MethodName := ⟨RX1, "troubleOfEntering", "(III)I"⟩
abbrev cX1_enter : ByteArray := prog_3_method_11_code
def yX1_enter : MethodName := ⟨RX1, "enter", "(III)I"⟩
abbrev cX1_leave : ByteArray := prog_3_method_12_code
def yX1_leave : MethodName := ⟨RX1, "leave", "()I"⟩
abbrev cX1_troubleOfWall : ByteArray := prog_3_method_13_code
def yX1_troubleOfWall : MethodName := ⟨RX1, "troubleOfWall", "(I)I"⟩
abbrev cX1_turnWall : ByteArray := prog_3_method_14_code
def yX1_turnWall : MethodName := ⟨RX1, "turnWall", "(I)Z"⟩
abbrev cX1_troubleOfSliding : ByteArray := prog_3_method_15_code
def yX1_troubleOfSliding : MethodName := ⟨RX1, "troubleOfSliding", "(II)I"⟩
abbrev cX1_makeSlide : ByteArray := prog_3_method_16_code
def yX1_makeSlide : MethodName := ⟨RX1, "makeSlide", "(II)I"⟩
abbrev cX1_unmakeSlide : ByteArray := prog_3_method_17_code
def yX1_unmakeSlide : MethodName := ⟨RX1, "unmakeSlide", "()I"⟩
abbrev cX1_loggedSteps : ByteArray := prog_3_method_18_code
def yX1_loggedSteps : MethodName := ⟨RX1, "loggedSteps", "(I)I"⟩
abbrev cX1_fuelSlideBySlide : ByteArray := prog_3_method_19_code
def yX1_fuelSlideBySlide : MethodName := ⟨RX1, "fuelSlideBySlide", "()I"⟩
abbrev cX1_fuelCarByCar : ByteArray := prog_3_method_20_code
def yX1_fuelCarByCar : MethodName := ⟨RX1, "fuelCarByCar", "()I"⟩
def RX2 : String := "CarTangos$WorksText"
def TX2 : u_T := fun k => match k with
  | 0 => ("CarTangos$WorksText", "codes", "[I", true)
  | _ => ("CarTangos$WorksText", "length", "I", false)
def tyX2 : Nat → FieldType := fun k => match k with
  | 0 => .array .int
  | _ => .int
abbrev wsX20 : List Cond := u_ws RX2 TX2 2
theorem nmX2 : ∀ a, a < 2 → ∀ b, b < 2 → a ≠ b → (TX2 a).2.1 ≠ (TX2 b).2.1 := by decide +kernel
theorem tyX2_ok : ∀ k, k < 2 → parseFieldDescriptor (TX2 k).2.2.1 = some (tyX2 k) := by decide +kernel
abbrev cX2_init : ByteArray := prog_4_method_1_code
def yX2_init : MethodName := ⟨RX2, "<init>", "()V"⟩
abbrev cX2_add : ByteArray := prog_4_method_2_code
def yX2_add : MethodName := ⟨RX2, "add", "(I)I"⟩
abbrev cX2_clear : ByteArray := prog_4_method_3_code
def yX2_clear : MethodName := ⟨RX2, "clear", "()I"⟩
abbrev cX2_codeAt : ByteArray := prog_4_method_4_code
def yX2_codeAt : MethodName := ⟨RX2, "codeAt", "(I)I"⟩
abbrev cX2_digitAt : ByteArray := prog_4_method_5_code
def yX2_digitAt : MethodName := ⟨RX2, "digitAt", "(I)I"⟩
abbrev cX2_signAt : ByteArray := prog_4_method_6_code
def yX2_signAt : MethodName := ⟨RX2, "signAt", "(I)I"⟩
abbrev cX2_cellAt : ByteArray := prog_4_method_7_code
def yX2_cellAt : MethodName := ⟨RX2, "cellAt", "(I)I"⟩
abbrev cX2_nextPart : ByteArray := prog_4_method_8_code
def yX2_nextPart : MethodName := ⟨RX2, "nextPart", "(I)I"⟩
abbrev cX2_isComplete : ByteArray := prog_4_method_10_code
def yX2_isComplete : MethodName := ⟨RX2, "isComplete", "()Z"⟩
abbrev cX2_isAmong : ByteArray := prog_4_method_11_code
def yX2_isAmong : MethodName := ⟨RX2, "isAmong", "(III)Z"⟩
abbrev cX2_behind : ByteArray := prog_4_method_12_code
def yX2_behind : MethodName := ⟨RX2, "behind", "(II)I"⟩
abbrev cX2_behindBegin : ByteArray := prog_4_method_13_code
def yX2_behindBegin : MethodName := ⟨RX2, "behindBegin", "(I)I"⟩
abbrev cX2_behindWall : ByteArray := prog_4_method_14_code
def yX2_behindWall : MethodName := ⟨RX2, "behindWall", "(I)I"⟩
abbrev cX2_behindEnd : ByteArray := prog_4_method_15_code
def yX2_behindEnd : MethodName := ⟨RX2, "behindEnd", "(I)I"⟩
def RX3 : String := "CarTangos"
def TX3 : u_T := fun k => match k with
  | 0 => ("CarTangos", "now", "LCarTangos$Park;", true)
  | 1 => ("CarTangos", "kept", "LCarTangos$Park;", true)
  | 2 => ("CarTangos", "saved", "[LCarTangos$Park;", true)
  | 3 => ("CarTangos", "explorer", "LCarTangos$Explorer;", true)
  | 4 => ("CarTangos", "text", "LCarTangos$WorksText;", true)
  | 5 => ("CarTangos", "savedCount", "I", false)
  | _ => ("CarTangos", "hasKept", "Z", false)
def tyX3 : Nat → FieldType := fun k => match k with
  | 0 => .object "CarTangos$Park"
  | 1 => .object "CarTangos$Park"
  | 2 => .array (.object "CarTangos$Park")
  | 3 => .object "CarTangos$Explorer"
  | 4 => .object "CarTangos$WorksText"
  | 5 => .int
  | _ => .boolean
abbrev wsX30 : List Cond := u_ws RX3 TX3 7
theorem nmX3 : ∀ a, a < 7 → ∀ b, b < 7 → a ≠ b → (TX3 a).2.1 ≠ (TX3 b).2.1 := by decide +kernel
theorem tyX3_ok : ∀ k, k < 7 → parseFieldDescriptor (TX3 k).2.2.1 = some (tyX3 k) := by decide +kernel
abbrev cX3_init : ByteArray := prog_1_method_1_code
def yX3_init : MethodName := ⟨RX3, "<init>", "()V"⟩
abbrev cX3_addCar : ByteArray := prog_1_method_2_code
def yX3_addCar : MethodName := ⟨RX3, "addCar", "(III)I"⟩
abbrev cX3_dropLast : ByteArray := prog_1_method_3_code
def yX3_dropLast : MethodName := ⟨RX3, "dropLast", "()I"⟩
abbrev cX3_toggleWall : ByteArray := prog_1_method_4_code
def yX3_toggleWall : MethodName := ⟨RX3, "toggleWall", "(I)Z"⟩
abbrev cX3_slide : ByteArray := prog_1_method_5_code
def yX3_slide : MethodName := ⟨RX3, "slide", "(II)I"⟩
abbrev cX3_takeBack : ByteArray := prog_1_method_6_code
def yX3_takeBack : MethodName := ⟨RX3, "takeBack", "()I"⟩
abbrev cX3_rewind : ByteArray := prog_1_method_7_code
def yX3_rewind : MethodName := ⟨RX3, "rewind", "()I"⟩
abbrev cX3_driveOut : ByteArray := prog_1_method_8_code
def yX3_driveOut : MethodName := ⟨RX3, "driveOut", "()I"⟩
abbrev cX3_append : ByteArray := prog_1_method_9_code
def yX3_append : MethodName := ⟨RX3, "append", "(I)I"⟩
abbrev cX3_work : ByteArray := prog_1_method_12_code
def yX3_work : MethodName := ⟨RX3, "work", "()I"⟩
abbrev cX3_stoppedPart : ByteArray := prog_1_method_14_code
def yX3_stoppedPart : MethodName := ⟨RX3, "stoppedPart", "()I"⟩
abbrev cX3_undo : ByteArray := prog_1_method_15_code
def yX3_undo : MethodName := ⟨RX3, "undo", "()I"⟩
abbrev cX3_keep : ByteArray := prog_1_method_16_code
def yX3_keep : MethodName := ⟨RX3, "keep", "()I"⟩
abbrev cX3_restore : ByteArray := prog_1_method_17_code
def yX3_restore : MethodName := ⟨RX3, "restore", "()I"⟩
abbrev cX3_savedStates : ByteArray := prog_1_method_18_code
def yX3_savedStates : MethodName := ⟨RX3, "savedStates", "()I"⟩
abbrev cX3_cars : ByteArray := prog_1_method_19_code
def yX3_cars : MethodName := ⟨RX3, "cars", "()I"⟩
abbrev cX3_walls : ByteArray := prog_1_method_20_code
def yX3_walls : MethodName := ⟨RX3, "walls", "()I"⟩
abbrev cX3_laneOf : ByteArray := prog_1_method_21_code
def yX3_laneOf : MethodName := ⟨RX3, "laneOf", "(I)I"⟩
abbrev cX3_placeOf : ByteArray := prog_1_method_22_code
def yX3_placeOf : MethodName := ⟨RX3, "placeOf", "(I)I"⟩
abbrev cX3_lengthOf : ByteArray := prog_1_method_23_code
def yX3_lengthOf : MethodName := ⟨RX3, "lengthOf", "(I)I"⟩
abbrev cX3_carOn : ByteArray := prog_1_method_24_code
def yX3_carOn : MethodName := ⟨RX3, "carOn", "(I)I"⟩
abbrev cX3_isWall : ByteArray := prog_1_method_25_code
def yX3_isWall : MethodName := ⟨RX3, "isWall", "(I)Z"⟩
abbrev cX3_freeCells : ByteArray := prog_1_method_26_code
def yX3_freeCells : MethodName := ⟨RX3, "freeCells", "()I"⟩
abbrev cX3_isOut : ByteArray := prog_1_method_27_code
def yX3_isOut : MethodName := ⟨RX3, "isOut", "()Z"⟩
abbrev cX3_room : ByteArray := prog_1_method_28_code
def yX3_room : MethodName := ⟨RX3, "room", "(IZ)I"⟩
abbrev cX3_possibleSlides : ByteArray := prog_1_method_29_code
def yX3_possibleSlides : MethodName := ⟨RX3, "possibleSlides", "()I"⟩
abbrev cX3_logged : ByteArray := prog_1_method_30_code
def yX3_logged : MethodName := ⟨RX3, "logged", "()I"⟩
abbrev cX3_carOfSlide : ByteArray := prog_1_method_31_code
def yX3_carOfSlide : MethodName := ⟨RX3, "carOfSlide", "(I)I"⟩
abbrev cX3_changeBySlide : ByteArray := prog_1_method_32_code
def yX3_changeBySlide : MethodName := ⟨RX3, "changeBySlide", "(I)I"⟩
abbrev cX3_stepsOf : ByteArray := prog_1_method_33_code
def yX3_stepsOf : MethodName := ⟨RX3, "stepsOf", "(I)I"⟩
abbrev cX3_fuel : ByteArray := prog_1_method_34_code
def yX3_fuel : MethodName := ⟨RX3, "fuel", "()I"⟩
abbrev cX3_fuelByCars : ByteArray := prog_1_method_35_code
def yX3_fuelByCars : MethodName := ⟨RX3, "fuelByCars", "()I"⟩
abbrev cX3_fewestSlides : ByteArray := prog_1_method_36_code
def yX3_fewestSlides : MethodName := ⟨RX3, "fewestSlides", "()I"⟩
abbrev cX3_fewestSlidesFromEnds : ByteArray := prog_1_method_37_code
def yX3_fewestSlidesFromEnds : MethodName := ⟨RX3, "fewestSlidesFromEnds", "()I"⟩
abbrev cX3_fewestSteps : ByteArray := prog_1_method_38_code
def yX3_fewestSteps : MethodName := ⟨RX3, "fewestSteps", "()I"⟩
abbrev cX3_leastFuel : ByteArray := prog_1_method_39_code
def yX3_leastFuel : MethodName := ⟨RX3, "leastFuel", "()I"⟩
abbrev cX3_leastFuelByRounds : ByteArray := prog_1_method_40_code
def yX3_leastFuelByRounds : MethodName := ⟨RX3, "leastFuelByRounds", "()I"⟩
abbrev cX3_nextCar : ByteArray := prog_1_method_41_code
def yX3_nextCar : MethodName := ⟨RX3, "nextCar", "()I"⟩
abbrev cX3_nextChange : ByteArray := prog_1_method_42_code
def yX3_nextChange : MethodName := ⟨RX3, "nextChange", "()I"⟩
abbrev cX3_reachable : ByteArray := prog_1_method_43_code
def yX3_reachable : MethodName := ⟨RX3, "reachable", "()I"⟩
abbrev cX3_reachableOut : ByteArray := prog_1_method_44_code
def yX3_reachableOut : MethodName := ⟨RX3, "reachableOut", "()I"⟩
abbrev cX3_farthest : ByteArray := prog_1_method_45_code
def yX3_farthest : MethodName := ⟨RX3, "farthest", "()I"⟩
abbrev cX3_arrangements : ByteArray := prog_1_method_46_code
def yX3_arrangements : MethodName := ⟨RX3, "arrangements", "()I"⟩
abbrev cX3_fewestBehind : ByteArray := prog_1_method_47_code
def yX3_fewestBehind : MethodName := ⟨RX3, "fewestBehind", "(II)I"⟩
abbrev cX3_fewestWithoutLast : ByteArray := prog_1_method_48_code
def yX3_fewestWithoutLast : MethodName := ⟨RX3, "fewestWithoutLast", "()I"⟩
abbrev cX3_fewestWithWall : ByteArray := prog_1_method_49_code
def yX3_fewestWithWall : MethodName := ⟨RX3, "fewestWithWall", "(I)I"⟩
abbrev cX3_digest : ByteArray := prog_1_method_51_code
def yX3_digest : MethodName := ⟨RX3, "digest", "()J"⟩
abbrev cX3_refuse : ByteArray := prog_1_method_52_code
def yX3_refuse : MethodName := ⟨RX3, "refuse", "(I)V"⟩
abbrev cX3_copy : ByteArray := prog_1_method_53_code
def yX3_copy : MethodName := ⟨RX3, "copy", "(LCarTangos$Park;LCarTangos$Park;)V"⟩
abbrev cX3_save : ByteArray := prog_1_method_54_code
def yX3_save : MethodName := ⟨RX3, "save", "()V"⟩
abbrev cX3_dropOldestSaved : ByteArray := prog_1_method_55_code
def yX3_dropOldestSaved : MethodName := ⟨RX3, "dropOldestSaved", "()V"⟩
abbrev cX3_exploreNow : ByteArray := prog_1_method_56_code
def yX3_exploreNow : MethodName := ⟨RX3, "exploreNow", "()V"⟩
abbrev cX3_hasNextSlide : ByteArray := prog_1_method_57_code
def yX3_hasNextSlide : MethodName := ⟨RX3, "hasNextSlide", "()Z"⟩
abbrev cX3_slidesToDriveOut : ByteArray := prog_1_method_58_code
def yX3_slidesToDriveOut : MethodName := ⟨RX3, "slidesToDriveOut", "()I"⟩
abbrev cX3_makePlan : ByteArray := prog_1_method_59_code
def yX3_makePlan : MethodName := ⟨RX3, "makePlan", "(I)Z"⟩
abbrev cX3_tryPart : ByteArray := prog_1_method_60_code
def yX3_tryPart : MethodName := ⟨RX3, "tryPart", "(I)Z"⟩
abbrev cX3_tryEntering : ByteArray := prog_1_method_61_code
def yX3_tryEntering : MethodName := ⟨RX3, "tryEntering", "(III)Z"⟩
abbrev cX3_tryWall : ByteArray := prog_1_method_62_code
def yX3_tryWall : MethodName := ⟨RX3, "tryWall", "(I)Z"⟩
abbrev cX3_trySliding : ByteArray := prog_1_method_63_code
def yX3_trySliding : MethodName := ⟨RX3, "trySliding", "(II)Z"⟩
abbrev cX3_tryTakingBack : ByteArray := prog_1_method_64_code
def yX3_tryTakingBack : MethodName := ⟨RX3, "tryTakingBack", "()Z"⟩
abbrev cX3_isCell : ByteArray := prog_1_method_65_code
def yX3_isCell : MethodName := ⟨RX3, "isCell", "(I)Z"⟩
abbrev cX3_bitOf : ByteArray := prog_1_method_66_code
def yX3_bitOf : MethodName := ⟨RX3, "bitOf", "(II)I"⟩
abbrev cX3_cellsOf : ByteArray := prog_1_method_67_code
def yX3_cellsOf : MethodName := ⟨RX3, "cellsOf", "(III)I"⟩
abbrev cX3_share : ByteArray := prog_1_method_68_code
def yX3_share : MethodName := ⟨RX3, "share", "(II)D"⟩
abbrev cX3_mix : ByteArray := prog_1_method_69_code
def yX3_mix : MethodName := ⟨RX3, "mix", "(JJ)J"⟩
abbrev cX3_bitsOf : ByteArray := prog_1_method_70_code
def yX3_bitsOf : MethodName := ⟨RX3, "bitsOf", "(D)J"⟩
abbrev cX3_hashOfPark : ByteArray := prog_1_method_71_code
def yX3_hashOfPark : MethodName := ⟨RX3, "hashOfPark", "(J)J"⟩
abbrev cX3_hashOfPlans : ByteArray := prog_1_method_72_code
def yX3_hashOfPlans : MethodName := ⟨RX3, "hashOfPlans", "(J)J"⟩
abbrev cX3_hashOfArrangements : ByteArray := prog_1_method_73_code
def yX3_hashOfArrangements : MethodName := ⟨RX3, "hashOfArrangements", "(J)J"⟩
abbrev cX3_hashOfCells : ByteArray := prog_1_method_74_code
def yX3_hashOfCells : MethodName := ⟨RX3, "hashOfCells", "(J)J"⟩
abbrev cX3_hashOfCars : ByteArray := prog_1_method_75_code
def yX3_hashOfCars : MethodName := ⟨RX3, "hashOfCars", "(J)J"⟩
abbrev cX3_hashOfLog : ByteArray := prog_1_method_76_code
def yX3_hashOfLog : MethodName := ⟨RX3, "hashOfLog", "(J)J"⟩
abbrev cX3_hashOfText : ByteArray := prog_1_method_77_code
def yX3_hashOfText : MethodName := ⟨RX3, "hashOfText", "(J)J"⟩
def RX4 : String := "CarTangosModel"
def TX4 : u_T := fun k => match k with
  | _ => ("", "", "", false)
def tyX4 : Nat → FieldType := fun k => match k with
  | _ => .int
abbrev wsX40 : List Cond := u_ws RX4 TX4 0
theorem nmX4 : ∀ a, a < 0 → ∀ b, b < 0 → a ≠ b → (TX4 a).2.1 ≠ (TX4 b).2.1 := by decide +kernel
theorem tyX4_ok : ∀ k, k < 0 → parseFieldDescriptor (TX4 k).2.2.1 = some (tyX4 k) := by decide +kernel
def RJ6 : String := "java/lang/Integer"
def TJ6 : u_T := fun k => match k with
  | _ => ("", "", "", false)
def tyJ6 : Nat → FieldType := fun k => match k with
  | _ => .int
abbrev wsJ60 : List Cond := u_ws RJ6 TJ6 0
theorem nmJ6 : ∀ a, a < 0 → ∀ b, b < 0 → a ≠ b → (TJ6 a).2.1 ≠ (TJ6 b).2.1 := by decide +kernel
theorem tyJ6_ok : ∀ k, k < 0 → parseFieldDescriptor (TJ6 k).2.2.1 = some (tyJ6 k) := by decide +kernel
abbrev cJ6_bitCount_0f7a4 : ByteArray := prog_11_method_49_code
def yJ6_bitCount_0f7a4 : MethodName := ⟨RJ6, "bitCount", "(I)I"⟩
def RJ9 : String := "java/lang/Math"
def TJ9 : u_T := fun k => match k with
  | _ => ("", "", "", false)
def tyJ9 : Nat → FieldType := fun k => match k with
  | _ => .int
abbrev wsJ90 : List Cond := u_ws RJ9 TJ9 0
theorem nmJ9 : ∀ a, a < 0 → ∀ b, b < 0 → a ≠ b → (TJ9 a).2.1 ≠ (TJ9 b).2.1 := by decide +kernel
theorem tyJ9_ok : ∀ k, k < 0 → parseFieldDescriptor (TJ9 k).2.2.1 = some (tyJ9 k) := by decide +kernel
abbrev cJ9_abs_0f7a4 : ByteArray := prog_12_method_59_code
def yJ9_abs_0f7a4 : MethodName := ⟨RJ9, "abs", "(I)I"⟩
abbrev cJ9_max_7cf53 : ByteArray := prog_12_method_65_code
def yJ9_max_7cf53 : MethodName := ⟨RJ9, "max", "(II)I"⟩
abbrev cJ9_min_7cf53 : ByteArray := prog_12_method_69_code
def yJ9_min_7cf53 : MethodName := ⟨RJ9, "min", "(II)I"⟩
def RJ0 : String := "java/lang/String"
def TJ0 : u_T := fun k => match k with
  | _ => ("", "", "", false)
def tyJ0 : Nat → FieldType := fun k => match k with
  | _ => .int
abbrev wsJ00 : List Cond := u_ws RJ0 TJ0 0
theorem nmJ0 : ∀ a, a < 0 → ∀ b, b < 0 → a ≠ b → (TJ0 a).2.1 ≠ (TJ0 b).2.1 := by decide +kernel
theorem tyJ0_ok : ∀ k, k < 0 → parseFieldDescriptor (TJ0 k).2.2.1 = some (tyJ0 k) := by decide +kernel
def RJ10 : String := "java/lang/System"
def TJ10 : u_T := fun k => match k with
  | _ => ("", "", "", false)
def tyJ10 : Nat → FieldType := fun k => match k with
  | _ => .int
abbrev wsJ100 : List Cond := u_ws RJ10 TJ10 0
theorem nmJ10 : ∀ a, a < 0 → ∀ b, b < 0 → a ≠ b → (TJ10 a).2.1 ≠ (TJ10 b).2.1 := by decide +kernel
theorem tyJ10_ok : ∀ k, k < 0 → parseFieldDescriptor (TJ10 k).2.2.1 = some (tyJ10 k) := by decide +kernel
def RL : String := "CarTangosLaw"
abbrev cL_wall : ByteArray := method_2_code
def yL_wall : MethodName := ⟨RL, "wall", "(LCarTangos;I)I"⟩
abbrev cL_isWall : ByteArray := method_3_code
def yL_isWall : MethodName := ⟨RL, "isWall", "(LCarTangos;I)I"⟩
abbrev cL_room : ByteArray := method_4_code
def yL_room : MethodName := ⟨RL, "room", "(LCarTangos;IZ)I"⟩
abbrev cL_tryAdd : ByteArray := method_5_code
def yL_tryAdd : MethodName := ⟨RL, "tryAdd", "(LCarTangos;III)I"⟩
abbrev cL_tryDrop : ByteArray := method_6_code
def yL_tryDrop : MethodName := ⟨RL, "tryDrop", "(LCarTangos;)I"⟩
abbrev cL_trySlide : ByteArray := method_7_code
def yL_trySlide : MethodName := ⟨RL, "trySlide", "(LCarTangos;II)I"⟩
abbrev cL_tryTake : ByteArray := method_8_code
def yL_tryTake : MethodName := ⟨RL, "tryTake", "(LCarTangos;)I"⟩
abbrev cL_tryDrive : ByteArray := method_9_code
def yL_tryDrive : MethodName := ⟨RL, "tryDrive", "(LCarTangos;)I"⟩
abbrev cL_tryAppend : ByteArray := method_10_code
def yL_tryAppend : MethodName := ⟨RL, "tryAppend", "(LCarTangos;I)I"⟩
abbrev cL_tryWork : ByteArray := method_11_code
def yL_tryWork : MethodName := ⟨RL, "tryWork", "(LCarTangos;)I"⟩
abbrev cL_tryStop : ByteArray := method_12_code
def yL_tryStop : MethodName := ⟨RL, "tryStop", "(LCarTangos;)I"⟩
abbrev cL_tryUndo : ByteArray := method_13_code
def yL_tryUndo : MethodName := ⟨RL, "tryUndo", "(LCarTangos;)I"⟩
abbrev cL_tryBack : ByteArray := method_14_code
def yL_tryBack : MethodName := ⟨RL, "tryBack", "(LCarTangos;)I"⟩
abbrev cL_tryLane : ByteArray := method_15_code
def yL_tryLane : MethodName := ⟨RL, "tryLane", "(LCarTangos;I)I"⟩
abbrev cL_tryPlace : ByteArray := method_16_code
def yL_tryPlace : MethodName := ⟨RL, "tryPlace", "(LCarTangos;I)I"⟩
abbrev cL_tryLength : ByteArray := method_17_code
def yL_tryLength : MethodName := ⟨RL, "tryLength", "(LCarTangos;I)I"⟩
abbrev cL_tryOn : ByteArray := method_18_code
def yL_tryOn : MethodName := ⟨RL, "tryOn", "(LCarTangos;I)I"⟩
abbrev cL_tryLogCar : ByteArray := method_19_code
def yL_tryLogCar : MethodName := ⟨RL, "tryLogCar", "(LCarTangos;I)I"⟩
abbrev cL_tryLogBy : ByteArray := method_20_code
def yL_tryLogBy : MethodName := ⟨RL, "tryLogBy", "(LCarTangos;I)I"⟩
abbrev cL_trySteps : ByteArray := method_21_code
def yL_trySteps : MethodName := ⟨RL, "trySteps", "(LCarTangos;I)I"⟩
abbrev cL_tryNext : ByteArray := method_22_code
def yL_tryNext : MethodName := ⟨RL, "tryNext", "(LCarTangos;)I"⟩
abbrev cL_tryChange : ByteArray := method_23_code
def yL_tryChange : MethodName := ⟨RL, "tryChange", "(LCarTangos;)I"⟩
abbrev cL_tryBehind : ByteArray := method_24_code
def yL_tryBehind : MethodName := ⟨RL, "tryBehind", "(LCarTangos;II)I"⟩
abbrev cL_tryWithout : ByteArray := method_25_code
def yL_tryWithout : MethodName := ⟨RL, "tryWithout", "(LCarTangos;)I"⟩
abbrev cL_tryWithWall : ByteArray := method_26_code
def yL_tryWithWall : MethodName := ⟨RL, "tryWithWall", "(LCarTangos;I)I"⟩
abbrev cL_call : ByteArray := method_27_code
def yL_call : MethodName := ⟨RL, "call", "(LCarTangos;IIII)I"⟩
abbrev cL_cell : ByteArray := method_28_code
def yL_cell : MethodName := ⟨RL, "cell", "([II)I"⟩
abbrev cL_thrown : ByteArray := method_29_code
def yL_thrown : MethodName := ⟨RL, "thrown", "(I)Z"⟩
abbrev cL_refuses : ByteArray := method_30_code
def yL_refuses : MethodName := ⟨RL, "refuses", "(LCarTangos;I)Z"⟩
abbrev cL_holds : ByteArray := method_31_code
def yL_holds : MethodName := ⟨RL, "holds", "(LCarTangos;)Z"⟩
abbrev cL_plans : ByteArray := method_32_code
def yL_plans : MethodName := ⟨RL, "plans", "(LCarTangos;)Z"⟩
abbrev cL_act : ByteArray := method_33_code
def yL_act : MethodName := ⟨RL, "act", "(LCarTangos;I)I"⟩
abbrev cL_alike : ByteArray := method_34_code
def yL_alike : MethodName := ⟨RL, "alike", "(LCarTangos;LCarTangos;)Z"⟩
abbrev cL_law : ByteArray := code
def yL_law : MethodName := ⟨RL, "law", "([I)Z"⟩
abbrev cL_undoes : ByteArray := method_36_code
def yL_undoes : MethodName := ⟨RL, "undoes", "(LCarTangos;LCarTangos;I)Z"⟩
abbrev cL_slides : ByteArray := method_37_code
def yL_slides : MethodName := ⟨RL, "slides", "(LCarTangos;LCarTangos;I)Z"⟩
abbrev cL_drives : ByteArray := method_38_code
def yL_drives : MethodName := ⟨RL, "drives", "(LCarTangos;LCarTangos;)Z"⟩
abbrev vwCl : List vw_C := [(RX0, TX0, 12), (RX1, TX1, 10), (RX2, TX2, 2), (RX3, TX3, 7)]
end
section
theorem dX0_init_0 : decode cX0_init 0 = .ok (.aload_n 0, 1) := by decide +kernel
theorem dX0_init_1 : decode cX0_init 1 = .ok (.invokespecial 5, 3) := by decide +kernel
theorem dX0_init_4 : decode cX0_init 4 = .ok (.aload_n 0, 1) := by decide +kernel
theorem dX0_init_5 : decode cX0_init 5 = .ok (.bipush 6, 2) := by decide +kernel
theorem dX0_init_7 : decode cX0_init 7 = .ok (.newarray .int, 2) := by decide +kernel
theorem dX0_init_9 : decode cX0_init 9 = .ok (.putfield 11, 3) := by decide +kernel
theorem dX0_init_12 : decode cX0_init 12 = .ok (.aload_n 0, 1) := by decide +kernel
theorem dX0_init_13 : decode cX0_init 13 = .ok (.sipush 4096, 3) := by decide +kernel
theorem dX0_init_16 : decode cX0_init 16 = .ok (.newarray .int, 2) := by decide +kernel
theorem dX0_init_18 : decode cX0_init 18 = .ok (.putfield 15, 3) := by decide +kernel
theorem dX0_init_21 : decode cX0_init 21 = .ok (.aload_n 0, 1) := by decide +kernel
theorem dX0_init_22 : decode cX0_init 22 = .ok (.sipush 4096, 3) := by decide +kernel
theorem dX0_init_25 : decode cX0_init 25 = .ok (.newarray .int, 2) := by decide +kernel
theorem dX0_init_27 : decode cX0_init 27 = .ok (.putfield 18, 3) := by decide +kernel
theorem dX0_init_30 : decode cX0_init 30 = .ok (.aload_n 0, 1) := by decide +kernel
theorem dX0_init_31 : decode cX0_init 31 = .ok (.sipush 4096, 3) := by decide +kernel
theorem dX0_init_34 : decode cX0_init 34 = .ok (.newarray .int, 2) := by decide +kernel
theorem dX0_init_36 : decode cX0_init 36 = .ok (.putfield 21, 3) := by decide +kernel
theorem dX0_init_39 : decode cX0_init 39 = .ok (.aload_n 0, 1) := by decide +kernel
theorem dX0_init_40 : decode cX0_init 40 = .ok (.sipush 16384, 3) := by decide +kernel
theorem dX0_init_43 : decode cX0_init 43 = .ok (.newarray .int, 2) := by decide +kernel
theorem dX0_init_45 : decode cX0_init 45 = .ok (.putfield 24, 3) := by decide +kernel
theorem dX0_init_48 : decode cX0_init 48 = .ok (.aload_n 0, 1) := by decide +kernel
theorem dX0_init_49 : decode cX0_init 49 = .ok (.iconst 4, 1) := by decide +kernel
theorem dX0_init_50 : decode cX0_init 50 = .ok (.newarray .int, 2) := by decide +kernel
theorem dX0_init_52 : decode cX0_init 52 = .ok (.putfield 27, 3) := by decide +kernel
theorem dX0_init_55 : decode cX0_init 55 = .ok (.return_, 1) := by decide +kernel
theorem dX0_load_0 : decode cX0_load 0 = .ok (.aload_n 0, 1) := by decide +kernel
theorem dX0_load_1 : decode cX0_load 1 = .ok (.iconst 0, 1) := by decide +kernel
theorem dX0_load_2 : decode cX0_load 2 = .ok (.iload_n 2, 1) := by decide +kernel
theorem dX0_load_3 : decode cX0_load 3 = .ok (.bipush 6, 2) := by decide +kernel
theorem dX0_load_5 : decode cX0_load 5 = .ok (.invokestatic 30, 3) := by decide +kernel
theorem dX0_load_8 : decode cX0_load 8 = .ok (.invokestatic 36, 3) := by decide +kernel
theorem dX0_load_11 : decode cX0_load 11 = .ok (.putfield 39, 3) := by decide +kernel
theorem dX0_load_14 : decode cX0_load 14 = .ok (.aload_n 0, 1) := by decide +kernel
theorem dX0_load_15 : decode cX0_load 15 = .ok (.iconst 1, 1) := by decide +kernel
theorem dX0_load_16 : decode cX0_load 16 = .ok (.putfield 43, 3) := by decide +kernel
theorem dX0_load_19 : decode cX0_load 19 = .ok (.aload_n 0, 1) := by decide +kernel
theorem dX0_load_20 : decode cX0_load 20 = .ok (.iconst 0, 1) := by decide +kernel
theorem dX0_load_21 : decode cX0_load 21 = .ok (.putfield 46, 3) := by decide +kernel
theorem dX0_load_24 : decode cX0_load 24 = .ok (.aload_n 0, 1) := by decide +kernel
theorem dX0_load_25 : decode cX0_load 25 = .ok (.getfield 15, 3) := by decide +kernel
theorem dX0_load_28 : decode cX0_load 28 = .ok (.iconst 0, 1) := by decide +kernel
theorem dX0_load_29 : decode cX0_load 29 = .ok (.iload_n 3, 1) := by decide +kernel
theorem dX0_load_30 : decode cX0_load 30 = .ok (.iastore, 1) := by decide +kernel
theorem dX0_load_31 : decode cX0_load 31 = .ok (.iconst 0, 1) := by decide +kernel
theorem dX0_load_32 : decode cX0_load 32 = .ok (.istore 4, 2) := by decide +kernel
theorem dX0_load_34 : decode cX0_load 34 = .ok (.iload 4, 2) := by decide +kernel
theorem dX0_load_36 : decode cX0_load 36 = .ok (.aload_n 0, 1) := by decide +kernel
theorem dX0_load_37 : decode cX0_load 37 = .ok (.getfield 39, 3) := by decide +kernel
theorem dX0_load_40 : decode cX0_load 40 = .ok (.if_icmp .ge 69, 3) := by decide +kernel
theorem dX0_load_43 : decode cX0_load 43 = .ok (.iload 4, 2) := by decide +kernel
theorem dX0_load_45 : decode cX0_load 45 = .ok (.bipush 6, 2) := by decide +kernel
theorem dX0_load_47 : decode cX0_load 47 = .ok (.if_icmp .ge 62, 3) := by decide +kernel
theorem dX0_load_50 : decode cX0_load 50 = .ok (.aload_n 0, 1) := by decide +kernel
theorem dX0_load_51 : decode cX0_load 51 = .ok (.getfield 11, 3) := by decide +kernel
theorem dX0_load_54 : decode cX0_load 54 = .ok (.iload 4, 2) := by decide +kernel
theorem dX0_load_56 : decode cX0_load 56 = .ok (.aload_n 1, 1) := by decide +kernel
theorem dX0_load_57 : decode cX0_load 57 = .ok (.getfield 49, 3) := by decide +kernel
theorem dX0_load_60 : decode cX0_load 60 = .ok (.iload 4, 2) := by decide +kernel
theorem dX0_load_62 : decode cX0_load 62 = .ok (.iaload, 1) := by decide +kernel
theorem dX0_load_63 : decode cX0_load 63 = .ok (.iastore, 1) := by decide +kernel
theorem dX0_load_64 : decode cX0_load 64 = .ok (.aload_n 0, 1) := by decide +kernel
theorem dX0_load_65 : decode cX0_load 65 = .ok (.dup, 1) := by decide +kernel
theorem dX0_load_66 : decode cX0_load 66 = .ok (.getfield 46, 3) := by decide +kernel
theorem dX0_load_69 : decode cX0_load 69 = .ok (.aload_n 1, 1) := by decide +kernel
theorem dX0_load_70 : decode cX0_load 70 = .ok (.getfield 52, 3) := by decide +kernel
theorem dX0_load_73 : decode cX0_load 73 = .ok (.iload 4, 2) := by decide +kernel
theorem dX0_load_75 : decode cX0_load 75 = .ok (.iaload, 1) := by decide +kernel
theorem dX0_load_76 : decode cX0_load 76 = .ok (.iconst 2, 1) := by decide +kernel
theorem dX0_load_77 : decode cX0_load 77 = .ok (.iload 4, 2) := by decide +kernel
theorem dX0_load_79 : decode cX0_load 79 = .ok (.imul, 1) := by decide +kernel
theorem dX0_load_80 : decode cX0_load 80 = .ok (.ishl, 1) := by decide +kernel
theorem dX0_load_81 : decode cX0_load 81 = .ok (.iadd, 1) := by decide +kernel
theorem dX0_load_82 : decode cX0_load 82 = .ok (.putfield 46, 3) := by decide +kernel
theorem dX0_load_85 : decode cX0_load 85 = .ok (.aload_n 0, 1) := by decide +kernel
theorem dX0_load_86 : decode cX0_load 86 = .ok (.aload_n 1, 1) := by decide +kernel
theorem dX0_load_87 : decode cX0_load 87 = .ok (.getfield 55, 3) := by decide +kernel
theorem dX0_load_90 : decode cX0_load 90 = .ok (.iload 4, 2) := by decide +kernel
theorem dX0_load_92 : decode cX0_load 92 = .ok (.iaload, 1) := by decide +kernel
theorem dX0_load_93 : decode cX0_load 93 = .ok (.aload_n 1, 1) := by decide +kernel
theorem dX0_load_94 : decode cX0_load 94 = .ok (.getfield 49, 3) := by decide +kernel
theorem dX0_load_97 : decode cX0_load 97 = .ok (.iload 4, 2) := by decide +kernel
theorem dX0_load_99 : decode cX0_load 99 = .ok (.iaload, 1) := by decide +kernel
theorem dX0_load_100 : decode cX0_load 100 = .ok (.invokevirtual 58, 3) := by decide +kernel
theorem dX0_load_103 : decode cX0_load 103 = .ok (.iinc 4 1, 3) := by decide +kernel
theorem dX0_load_106 : decode cX0_load 106 = .ok (.goto (-72), 3) := by decide +kernel
theorem dX0_load_109 : decode cX0_load 109 = .ok (.return_, 1) := by decide +kernel
theorem dX0_addToTable_0 : decode cX0_addToTable 0 = .ok (.aload_n 0, 1) := by decide +kernel
theorem dX0_addToTable_1 : decode cX0_addToTable 1 = .ok (.getfield 43, 3) := by decide +kernel
theorem dX0_addToTable_4 : decode cX0_addToTable 4 = .ok (.istore_n 3, 1) := by decide +kernel
theorem dX0_addToTable_5 : decode cX0_addToTable 5 = .ok (.iconst 3, 1) := by decide +kernel
theorem dX0_addToTable_6 : decode cX0_addToTable 6 = .ok (.istore 4, 2) := by decide +kernel
theorem dX0_addToTable_8 : decode cX0_addToTable 8 = .ok (.iload 4, 2) := by decide +kernel
theorem dX0_addToTable_10 : decode cX0_addToTable 10 = .ok (.ifCond .lt 82, 3) := by decide +kernel
theorem dX0_addToTable_13 : decode cX0_addToTable 13 = .ok (.iload 4, 2) := by decide +kernel
theorem dX0_addToTable_15 : decode cX0_addToTable 15 = .ok (.iload_n 2, 1) := by decide +kernel
theorem dX0_addToTable_16 : decode cX0_addToTable 16 = .ok (.iadd, 1) := by decide +kernel
theorem dX0_addToTable_17 : decode cX0_addToTable 17 = .ok (.iconst 5, 1) := by decide +kernel
theorem dX0_addToTable_18 : decode cX0_addToTable 18 = .ok (.if_icmp .gt 13, 3) := by decide +kernel
theorem dX0_addToTable_21 : decode cX0_addToTable 21 = .ok (.iload_n 1, 1) := by decide +kernel
theorem dX0_addToTable_22 : decode cX0_addToTable 22 = .ok (.iload 4, 2) := by decide +kernel
theorem dX0_addToTable_24 : decode cX0_addToTable 24 = .ok (.iload_n 2, 1) := by decide +kernel
theorem dX0_addToTable_25 : decode cX0_addToTable 25 = .ok (.invokestatic 62, 3) := by decide +kernel
theorem dX0_addToTable_28 : decode cX0_addToTable 28 = .ok (.goto 4, 3) := by decide +kernel
theorem dX0_addToTable_31 : decode cX0_addToTable 31 = .ok (.iconst (-1), 1) := by decide +kernel
theorem dX0_addToTable_32 : decode cX0_addToTable 32 = .ok (.istore 5, 2) := by decide +kernel
theorem dX0_addToTable_34 : decode cX0_addToTable 34 = .ok (.iconst 0, 1) := by decide +kernel
theorem dX0_addToTable_35 : decode cX0_addToTable 35 = .ok (.istore 6, 2) := by decide +kernel
theorem dX0_addToTable_37 : decode cX0_addToTable 37 = .ok (.iload 6, 2) := by decide +kernel
theorem dX0_addToTable_39 : decode cX0_addToTable 39 = .ok (.iload_n 3, 1) := by decide +kernel
theorem dX0_addToTable_40 : decode cX0_addToTable 40 = .ok (.if_icmp .ge 46, 3) := by decide +kernel
theorem dX0_addToTable_43 : decode cX0_addToTable 43 = .ok (.iload_n 3, 1) := by decide +kernel
theorem dX0_addToTable_44 : decode cX0_addToTable 44 = .ok (.iload 4, 2) := by decide +kernel
theorem dX0_addToTable_46 : decode cX0_addToTable 46 = .ok (.imul, 1) := by decide +kernel
theorem dX0_addToTable_47 : decode cX0_addToTable 47 = .ok (.iload 6, 2) := by decide +kernel
theorem dX0_addToTable_49 : decode cX0_addToTable 49 = .ok (.iadd, 1) := by decide +kernel
theorem dX0_addToTable_50 : decode cX0_addToTable 50 = .ok (.sipush 4096, 3) := by decide +kernel
theorem dX0_addToTable_53 : decode cX0_addToTable 53 = .ok (.if_icmp .ge 33, 3) := by decide +kernel
theorem dX0_addToTable_56 : decode cX0_addToTable 56 = .ok (.aload_n 0, 1) := by decide +kernel
theorem dX0_addToTable_57 : decode cX0_addToTable 57 = .ok (.getfield 15, 3) := by decide +kernel
theorem dX0_addToTable_60 : decode cX0_addToTable 60 = .ok (.iload_n 3, 1) := by decide +kernel
theorem dX0_addToTable_61 : decode cX0_addToTable 61 = .ok (.iload 4, 2) := by decide +kernel
theorem dX0_addToTable_63 : decode cX0_addToTable 63 = .ok (.imul, 1) := by decide +kernel
theorem dX0_addToTable_64 : decode cX0_addToTable 64 = .ok (.iload 6, 2) := by decide +kernel
theorem dX0_addToTable_66 : decode cX0_addToTable 66 = .ok (.iadd, 1) := by decide +kernel
theorem dX0_addToTable_67 : decode cX0_addToTable 67 = .ok (.aload_n 0, 1) := by decide +kernel
theorem dX0_addToTable_68 : decode cX0_addToTable 68 = .ok (.getfield 15, 3) := by decide +kernel
theorem dX0_addToTable_71 : decode cX0_addToTable 71 = .ok (.iload 6, 2) := by decide +kernel
theorem dX0_addToTable_73 : decode cX0_addToTable 73 = .ok (.iaload, 1) := by decide +kernel
theorem dX0_addToTable_74 : decode cX0_addToTable 74 = .ok (.iload 5, 2) := by decide +kernel
theorem dX0_addToTable_76 : decode cX0_addToTable 76 = .ok (.invokestatic 66, 3) := by decide +kernel
theorem dX0_addToTable_79 : decode cX0_addToTable 79 = .ok (.iastore, 1) := by decide +kernel
theorem dX0_addToTable_80 : decode cX0_addToTable 80 = .ok (.iinc 6 1, 3) := by decide +kernel
theorem dX0_addToTable_83 : decode cX0_addToTable 83 = .ok (.goto (-46), 3) := by decide +kernel
theorem dX0_addToTable_86 : decode cX0_addToTable 86 = .ok (.iinc 4 (-1), 3) := by decide +kernel
theorem dX0_addToTable_89 : decode cX0_addToTable 89 = .ok (.goto (-81), 3) := by decide +kernel
theorem dX0_addToTable_92 : decode cX0_addToTable 92 = .ok (.aload_n 0, 1) := by decide +kernel
theorem dX0_addToTable_93 : decode cX0_addToTable 93 = .ok (.iload_n 3, 1) := by decide +kernel
theorem dX0_addToTable_94 : decode cX0_addToTable 94 = .ok (.iconst 4, 1) := by decide +kernel
theorem dX0_addToTable_95 : decode cX0_addToTable 95 = .ok (.imul, 1) := by decide +kernel
theorem dX0_addToTable_96 : decode cX0_addToTable 96 = .ok (.sipush 4096, 3) := by decide +kernel
theorem dX0_addToTable_99 : decode cX0_addToTable 99 = .ok (.invokestatic 30, 3) := by decide +kernel
theorem dX0_addToTable_102 : decode cX0_addToTable 102 = .ok (.putfield 43, 3) := by decide +kernel
theorem dX0_addToTable_105 : decode cX0_addToTable 105 = .ok (.return_, 1) := by decide +kernel
theorem dX0_together_0 : decode cX0_together 0 = .ok (.iload_n 0, 1) := by decide +kernel
theorem dX0_together_1 : decode cX0_together 1 = .ok (.iconst (-1), 1) := by decide +kernel
theorem dX0_together_2 : decode cX0_together 2 = .ok (.if_icmp .eq 18, 3) := by decide +kernel
theorem dX0_together_5 : decode cX0_together 5 = .ok (.iload_n 1, 1) := by decide +kernel
theorem dX0_together_6 : decode cX0_together 6 = .ok (.iconst (-1), 1) := by decide +kernel
theorem dX0_together_7 : decode cX0_together 7 = .ok (.if_icmp .eq 13, 3) := by decide +kernel
theorem dX0_together_10 : decode cX0_together 10 = .ok (.iload_n 0, 1) := by decide +kernel
theorem dX0_together_11 : decode cX0_together 11 = .ok (.iload_n 1, 1) := by decide +kernel
theorem dX0_together_12 : decode cX0_together 12 = .ok (.iand, 1) := by decide +kernel
theorem dX0_together_13 : decode cX0_together 13 = .ok (.ifCond .ne 7, 3) := by decide +kernel
theorem dX0_together_16 : decode cX0_together 16 = .ok (.iconst 1, 1) := by decide +kernel
theorem dX0_together_17 : decode cX0_together 17 = .ok (.goto 4, 3) := by decide +kernel
theorem dX0_together_20 : decode cX0_together 20 = .ok (.iconst 0, 1) := by decide +kernel
theorem dX0_together_21 : decode cX0_together 21 = .ok (.istore_n 2, 1) := by decide +kernel
theorem dX0_together_22 : decode cX0_together 22 = .ok (.iload_n 2, 1) := by decide +kernel
theorem dX0_together_23 : decode cX0_together 23 = .ok (.ifCond .eq 9, 3) := by decide +kernel
theorem dX0_together_26 : decode cX0_together 26 = .ok (.iload_n 0, 1) := by decide +kernel
theorem dX0_together_27 : decode cX0_together 27 = .ok (.iload_n 1, 1) := by decide +kernel
theorem dX0_together_28 : decode cX0_together 28 = .ok (.ior, 1) := by decide +kernel
theorem dX0_together_29 : decode cX0_together 29 = .ok (.goto 4, 3) := by decide +kernel
theorem dX0_together_32 : decode cX0_together 32 = .ok (.iconst (-1), 1) := by decide +kernel
theorem dX0_together_33 : decode cX0_together 33 = .ok (.ireturn, 1) := by decide +kernel
theorem dX0_exists_0 : decode cX0_exists 0 = .ok (.iload_n 1, 1) := by decide +kernel
theorem dX0_exists_1 : decode cX0_exists 1 = .ok (.ifCond .lt 25, 3) := by decide +kernel
theorem dX0_exists_4 : decode cX0_exists 4 = .ok (.iload_n 1, 1) := by decide +kernel
theorem dX0_exists_5 : decode cX0_exists 5 = .ok (.aload_n 0, 1) := by decide +kernel
theorem dX0_exists_6 : decode cX0_exists 6 = .ok (.getfield 43, 3) := by decide +kernel
theorem dX0_exists_9 : decode cX0_exists 9 = .ok (.if_icmp .ge 17, 3) := by decide +kernel
theorem dX0_exists_12 : decode cX0_exists 12 = .ok (.aload_n 0, 1) := by decide +kernel
theorem dX0_exists_13 : decode cX0_exists 13 = .ok (.getfield 15, 3) := by decide +kernel
theorem dX0_exists_16 : decode cX0_exists 16 = .ok (.iload_n 1, 1) := by decide +kernel
theorem dX0_exists_17 : decode cX0_exists 17 = .ok (.iaload, 1) := by decide +kernel
theorem dX0_exists_18 : decode cX0_exists 18 = .ok (.iconst (-1), 1) := by decide +kernel
theorem dX0_exists_19 : decode cX0_exists 19 = .ok (.if_icmp .eq 7, 3) := by decide +kernel
theorem dX0_exists_22 : decode cX0_exists 22 = .ok (.iconst 1, 1) := by decide +kernel
theorem dX0_exists_23 : decode cX0_exists 23 = .ok (.goto 4, 3) := by decide +kernel
theorem dX0_exists_26 : decode cX0_exists 26 = .ok (.iconst 0, 1) := by decide +kernel
theorem dX0_exists_27 : decode cX0_exists 27 = .ok (.ireturn, 1) := by decide +kernel
theorem dX0_isOutIn_0 : decode cX0_isOutIn 0 = .ok (.aload_n 0, 1) := by decide +kernel
theorem dX0_isOutIn_1 : decode cX0_isOutIn 1 = .ok (.getfield 39, 3) := by decide +kernel
theorem dX0_isOutIn_4 : decode cX0_isOutIn 4 = .ok (.ifCond .le 21, 3) := by decide +kernel
theorem dX0_isOutIn_7 : decode cX0_isOutIn 7 = .ok (.iload_n 1, 1) := by decide +kernel
theorem dX0_isOutIn_8 : decode cX0_isOutIn 8 = .ok (.iconst 4, 1) := by decide +kernel
theorem dX0_isOutIn_9 : decode cX0_isOutIn 9 = .ok (.irem, 1) := by decide +kernel
theorem dX0_isOutIn_10 : decode cX0_isOutIn 10 = .ok (.aload_n 0, 1) := by decide +kernel
theorem dX0_isOutIn_11 : decode cX0_isOutIn 11 = .ok (.getfield 11, 3) := by decide +kernel
theorem dX0_isOutIn_14 : decode cX0_isOutIn 14 = .ok (.iconst 0, 1) := by decide +kernel
theorem dX0_isOutIn_15 : decode cX0_isOutIn 15 = .ok (.iaload, 1) := by decide +kernel
theorem dX0_isOutIn_16 : decode cX0_isOutIn 16 = .ok (.iadd, 1) := by decide +kernel
theorem dX0_isOutIn_17 : decode cX0_isOutIn 17 = .ok (.iconst 5, 1) := by decide +kernel
theorem dX0_isOutIn_18 : decode cX0_isOutIn 18 = .ok (.if_icmp .ne 7, 3) := by decide +kernel
theorem dX0_isOutIn_21 : decode cX0_isOutIn 21 = .ok (.iconst 1, 1) := by decide +kernel
theorem dX0_isOutIn_22 : decode cX0_isOutIn 22 = .ok (.goto 4, 3) := by decide +kernel
theorem dX0_isOutIn_25 : decode cX0_isOutIn 25 = .ok (.iconst 0, 1) := by decide +kernel
theorem dX0_isOutIn_26 : decode cX0_isOutIn 26 = .ok (.ireturn, 1) := by decide +kernel
theorem dX0_allArrangements_0 : decode cX0_allArrangements 0 = .ok (.iconst 0, 1) := by decide +kernel
theorem dX0_allArrangements_1 : decode cX0_allArrangements 1 = .ok (.istore_n 1, 1) := by decide +kernel
theorem dX0_allArrangements_2 : decode cX0_allArrangements 2 = .ok (.iconst 0, 1) := by decide +kernel
theorem dX0_allArrangements_3 : decode cX0_allArrangements 3 = .ok (.istore_n 2, 1) := by decide +kernel
theorem dX0_allArrangements_4 : decode cX0_allArrangements 4 = .ok (.iload_n 2, 1) := by decide +kernel
theorem dX0_allArrangements_5 : decode cX0_allArrangements 5 = .ok (.aload_n 0, 1) := by decide +kernel
theorem dX0_allArrangements_6 : decode cX0_allArrangements 6 = .ok (.getfield 43, 3) := by decide +kernel
theorem dX0_allArrangements_9 : decode cX0_allArrangements 9 = .ok (.if_icmp .ge 20, 3) := by decide +kernel
theorem dX0_allArrangements_12 : decode cX0_allArrangements 12 = .ok (.aload_n 0, 1) := by decide +kernel
theorem dX0_allArrangements_13 : decode cX0_allArrangements 13 = .ok (.iload_n 2, 1) := by decide +kernel
theorem dX0_allArrangements_14 : decode cX0_allArrangements 14 = .ok (.invokevirtual 69, 3) := by decide +kernel
theorem dX0_allArrangements_17 : decode cX0_allArrangements 17 = .ok (.ifCond .eq 6, 3) := by decide +kernel
theorem dX0_allArrangements_20 : decode cX0_allArrangements 20 = .ok (.iinc 1 1, 3) := by decide +kernel
theorem dX0_allArrangements_23 : decode cX0_allArrangements 23 = .ok (.iinc 2 1, 3) := by decide +kernel
theorem dX0_allArrangements_26 : decode cX0_allArrangements 26 = .ok (.goto (-22), 3) := by decide +kernel
theorem dX0_allArrangements_29 : decode cX0_allArrangements 29 = .ok (.iload_n 1, 1) := by decide +kernel
theorem dX0_allArrangements_30 : decode cX0_allArrangements 30 = .ok (.ireturn, 1) := by decide +kernel
theorem dX0_behindStep_0 : decode cX0_behindStep 0 = .ok (.iload_n 1, 1) := by decide +kernel
theorem dX0_behindStep_1 : decode cX0_behindStep 1 = .ok (.iconst 2, 1) := by decide +kernel
theorem dX0_behindStep_2 : decode cX0_behindStep 2 = .ok (.iload_n 2, 1) := by decide +kernel
theorem dX0_behindStep_3 : decode cX0_behindStep 3 = .ok (.imul, 1) := by decide +kernel
theorem dX0_behindStep_4 : decode cX0_behindStep 4 = .ok (.ishr, 1) := by decide +kernel
theorem dX0_behindStep_5 : decode cX0_behindStep 5 = .ok (.iconst 3, 1) := by decide +kernel
theorem dX0_behindStep_6 : decode cX0_behindStep 6 = .ok (.iand, 1) := by decide +kernel
theorem dX0_behindStep_7 : decode cX0_behindStep 7 = .ok (.iload_n 3, 1) := by decide +kernel
theorem dX0_behindStep_8 : decode cX0_behindStep 8 = .ok (.iadd, 1) := by decide +kernel
theorem dX0_behindStep_9 : decode cX0_behindStep 9 = .ok (.istore 4, 2) := by decide +kernel
theorem dX0_behindStep_11 : decode cX0_behindStep 11 = .ok (.iload_n 1, 1) := by decide +kernel
theorem dX0_behindStep_12 : decode cX0_behindStep 12 = .ok (.iload_n 3, 1) := by decide +kernel
theorem dX0_behindStep_13 : decode cX0_behindStep 13 = .ok (.iconst 1, 1) := by decide +kernel
theorem dX0_behindStep_14 : decode cX0_behindStep 14 = .ok (.iconst 2, 1) := by decide +kernel
theorem dX0_behindStep_15 : decode cX0_behindStep 15 = .ok (.iload_n 2, 1) := by decide +kernel
theorem dX0_behindStep_16 : decode cX0_behindStep 16 = .ok (.imul, 1) := by decide +kernel
theorem dX0_behindStep_17 : decode cX0_behindStep 17 = .ok (.ishl, 1) := by decide +kernel
theorem dX0_behindStep_18 : decode cX0_behindStep 18 = .ok (.imul, 1) := by decide +kernel
theorem dX0_behindStep_19 : decode cX0_behindStep 19 = .ok (.iadd, 1) := by decide +kernel
theorem dX0_behindStep_20 : decode cX0_behindStep 20 = .ok (.istore 5, 2) := by decide +kernel
theorem dX0_behindStep_22 : decode cX0_behindStep 22 = .ok (.iload 4, 2) := by decide +kernel
theorem dX0_behindStep_24 : decode cX0_behindStep 24 = .ok (.ifCond .lt 23, 3) := by decide +kernel
theorem dX0_behindStep_27 : decode cX0_behindStep 27 = .ok (.iload 4, 2) := by decide +kernel
theorem dX0_behindStep_29 : decode cX0_behindStep 29 = .ok (.iconst 4, 1) := by decide +kernel
theorem dX0_behindStep_30 : decode cX0_behindStep 30 = .ok (.if_icmp .ge 17, 3) := by decide +kernel
theorem dX0_behindStep_33 : decode cX0_behindStep 33 = .ok (.iload 5, 2) := by decide +kernel
theorem dX0_behindStep_35 : decode cX0_behindStep 35 = .ok (.ifCond .lt 12, 3) := by decide +kernel
theorem dX0_behindStep_38 : decode cX0_behindStep 38 = .ok (.iload 5, 2) := by decide +kernel
theorem dX0_behindStep_40 : decode cX0_behindStep 40 = .ok (.aload_n 0, 1) := by decide +kernel
theorem dX0_behindStep_41 : decode cX0_behindStep 41 = .ok (.getfield 43, 3) := by decide +kernel
theorem dX0_behindStep_44 : decode cX0_behindStep 44 = .ok (.if_icmp .lt 5, 3) := by decide +kernel
theorem dX0_behindStep_47 : decode cX0_behindStep 47 = .ok (.iconst (-1), 1) := by decide +kernel
theorem dX0_behindStep_48 : decode cX0_behindStep 48 = .ok (.ireturn, 1) := by decide +kernel
theorem dX0_behindStep_49 : decode cX0_behindStep 49 = .ok (.aload_n 0, 1) := by decide +kernel
theorem dX0_behindStep_50 : decode cX0_behindStep 50 = .ok (.getfield 15, 3) := by decide +kernel
theorem dX0_behindStep_53 : decode cX0_behindStep 53 = .ok (.iload 5, 2) := by decide +kernel
theorem dX0_behindStep_55 : decode cX0_behindStep 55 = .ok (.iaload, 1) := by decide +kernel
theorem dX0_behindStep_56 : decode cX0_behindStep 56 = .ok (.iconst (-1), 1) := by decide +kernel
theorem dX0_behindStep_57 : decode cX0_behindStep 57 = .ok (.if_icmp .ne 7, 3) := by decide +kernel
theorem dX0_behindStep_60 : decode cX0_behindStep 60 = .ok (.iconst (-1), 1) := by decide +kernel
theorem dX0_behindStep_61 : decode cX0_behindStep 61 = .ok (.goto 5, 3) := by decide +kernel
theorem dX0_behindStep_64 : decode cX0_behindStep 64 = .ok (.iload 5, 2) := by decide +kernel
theorem dX0_behindStep_66 : decode cX0_behindStep 66 = .ok (.ireturn, 1) := by decide +kernel
theorem dX0_behindSlide_0 : decode cX0_behindSlide 0 = .ok (.iload_n 3, 1) := by decide +kernel
theorem dX0_behindSlide_1 : decode cX0_behindSlide 1 = .ok (.ifCond .le 7, 3) := by decide +kernel
theorem dX0_behindSlide_4 : decode cX0_behindSlide 4 = .ok (.iconst 1, 1) := by decide +kernel
theorem dX0_behindSlide_5 : decode cX0_behindSlide 5 = .ok (.goto 4, 3) := by decide +kernel
theorem dX0_behindSlide_8 : decode cX0_behindSlide 8 = .ok (.iconst (-1), 1) := by decide +kernel
theorem dX0_behindSlide_9 : decode cX0_behindSlide 9 = .ok (.istore 4, 2) := by decide +kernel
theorem dX0_behindSlide_11 : decode cX0_behindSlide 11 = .ok (.iload_n 1, 1) := by decide +kernel
theorem dX0_behindSlide_12 : decode cX0_behindSlide 12 = .ok (.istore 5, 2) := by decide +kernel
theorem dX0_behindSlide_14 : decode cX0_behindSlide 14 = .ok (.iload_n 3, 1) := by decide +kernel
theorem dX0_behindSlide_15 : decode cX0_behindSlide 15 = .ok (.invokestatic 73, 3) := by decide +kernel
theorem dX0_behindSlide_18 : decode cX0_behindSlide 18 = .ok (.istore 6, 2) := by decide +kernel
theorem dX0_behindSlide_20 : decode cX0_behindSlide 20 = .ok (.iload 6, 2) := by decide +kernel
theorem dX0_behindSlide_22 : decode cX0_behindSlide 22 = .ok (.ifCond .le 26, 3) := by decide +kernel
theorem dX0_behindSlide_25 : decode cX0_behindSlide 25 = .ok (.iload 5, 2) := by decide +kernel
theorem dX0_behindSlide_27 : decode cX0_behindSlide 27 = .ok (.iconst (-1), 1) := by decide +kernel
theorem dX0_behindSlide_28 : decode cX0_behindSlide 28 = .ok (.if_icmp .eq 20, 3) := by decide +kernel
theorem dX0_behindSlide_31 : decode cX0_behindSlide 31 = .ok (.aload_n 0, 1) := by decide +kernel
theorem dX0_behindSlide_32 : decode cX0_behindSlide 32 = .ok (.iload 5, 2) := by decide +kernel
theorem dX0_behindSlide_34 : decode cX0_behindSlide 34 = .ok (.iload_n 2, 1) := by decide +kernel
theorem dX0_behindSlide_35 : decode cX0_behindSlide 35 = .ok (.iload 4, 2) := by decide +kernel
theorem dX0_behindSlide_37 : decode cX0_behindSlide 37 = .ok (.invokevirtual 77, 3) := by decide +kernel
theorem dX0_behindSlide_40 : decode cX0_behindSlide 40 = .ok (.istore 5, 2) := by decide +kernel
theorem dX0_behindSlide_42 : decode cX0_behindSlide 42 = .ok (.iinc 6 (-1), 3) := by decide +kernel
theorem dX0_behindSlide_45 : decode cX0_behindSlide 45 = .ok (.goto (-25), 3) := by decide +kernel
theorem dX0_behindSlide_48 : decode cX0_behindSlide 48 = .ok (.iload 5, 2) := by decide +kernel
theorem dX0_behindSlide_50 : decode cX0_behindSlide 50 = .ok (.ireturn, 1) := by decide +kernel
theorem dX0_costOf_0 : decode cX0_costOf 0 = .ok (.aload_n 0, 1) := by decide +kernel
theorem dX0_costOf_1 : decode cX0_costOf 1 = .ok (.iload_n 1, 1) := by decide +kernel
theorem dX0_costOf_2 : decode cX0_costOf 2 = .ok (.invokevirtual 69, 3) := by decide +kernel
theorem dX0_costOf_5 : decode cX0_costOf 5 = .ok (.ifCond .eq 12, 3) := by decide +kernel
theorem dX0_costOf_8 : decode cX0_costOf 8 = .ok (.aload_n 0, 1) := by decide +kernel
theorem dX0_costOf_9 : decode cX0_costOf 9 = .ok (.getfield 18, 3) := by decide +kernel
theorem dX0_costOf_12 : decode cX0_costOf 12 = .ok (.iload_n 1, 1) := by decide +kernel
theorem dX0_costOf_13 : decode cX0_costOf 13 = .ok (.iaload, 1) := by decide +kernel
theorem dX0_costOf_14 : decode cX0_costOf 14 = .ok (.goto 4, 3) := by decide +kernel
theorem dX0_costOf_17 : decode cX0_costOf 17 = .ok (.iconst (-1), 1) := by decide +kernel
theorem dX0_costOf_18 : decode cX0_costOf 18 = .ok (.ireturn, 1) := by decide +kernel
theorem dX0_forget_0 : decode cX0_forget 0 = .ok (.iconst 0, 1) := by decide +kernel
theorem dX0_forget_1 : decode cX0_forget 1 = .ok (.istore_n 1, 1) := by decide +kernel
theorem dX0_forget_2 : decode cX0_forget 2 = .ok (.iload_n 1, 1) := by decide +kernel
theorem dX0_forget_3 : decode cX0_forget 3 = .ok (.aload_n 0, 1) := by decide +kernel
theorem dX0_forget_4 : decode cX0_forget 4 = .ok (.getfield 43, 3) := by decide +kernel
theorem dX0_forget_7 : decode cX0_forget 7 = .ok (.if_icmp .ge 23, 3) := by decide +kernel
theorem dX0_forget_10 : decode cX0_forget 10 = .ok (.iload_n 1, 1) := by decide +kernel
theorem dX0_forget_11 : decode cX0_forget 11 = .ok (.sipush 4096, 3) := by decide +kernel
theorem dX0_forget_14 : decode cX0_forget 14 = .ok (.if_icmp .ge 16, 3) := by decide +kernel
theorem dX0_forget_17 : decode cX0_forget 17 = .ok (.aload_n 0, 1) := by decide +kernel
theorem dX0_forget_18 : decode cX0_forget 18 = .ok (.getfield 18, 3) := by decide +kernel
theorem dX0_forget_21 : decode cX0_forget 21 = .ok (.iload_n 1, 1) := by decide +kernel
theorem dX0_forget_22 : decode cX0_forget 22 = .ok (.iconst (-1), 1) := by decide +kernel
theorem dX0_forget_23 : decode cX0_forget 23 = .ok (.iastore, 1) := by decide +kernel
theorem dX0_forget_24 : decode cX0_forget 24 = .ok (.iinc 1 1, 3) := by decide +kernel
theorem dX0_forget_27 : decode cX0_forget 27 = .ok (.goto (-25), 3) := by decide +kernel
theorem dX0_forget_30 : decode cX0_forget 30 = .ok (.aload_n 0, 1) := by decide +kernel
theorem dX0_forget_31 : decode cX0_forget 31 = .ok (.iconst 0, 1) := by decide +kernel
theorem dX0_forget_32 : decode cX0_forget 32 = .ok (.putfield 80, 3) := by decide +kernel
theorem dX0_forget_35 : decode cX0_forget 35 = .ok (.return_, 1) := by decide +kernel
theorem dX0_find_0 : decode cX0_find 0 = .ok (.iload_n 1, 1) := by decide +kernel
theorem dX0_find_1 : decode cX0_find 1 = .ok (.ifCond .lt 21, 3) := by decide +kernel
theorem dX0_find_4 : decode cX0_find 4 = .ok (.iload_n 1, 1) := by decide +kernel
theorem dX0_find_5 : decode cX0_find 5 = .ok (.aload_n 0, 1) := by decide +kernel
theorem dX0_find_6 : decode cX0_find 6 = .ok (.getfield 43, 3) := by decide +kernel
theorem dX0_find_9 : decode cX0_find 9 = .ok (.if_icmp .ge 13, 3) := by decide +kernel
theorem dX0_find_12 : decode cX0_find 12 = .ok (.aload_n 0, 1) := by decide +kernel
theorem dX0_find_13 : decode cX0_find 13 = .ok (.getfield 15, 3) := by decide +kernel
theorem dX0_find_16 : decode cX0_find 16 = .ok (.iload_n 1, 1) := by decide +kernel
theorem dX0_find_17 : decode cX0_find 17 = .ok (.iaload, 1) := by decide +kernel
theorem dX0_find_18 : decode cX0_find 18 = .ok (.iconst (-1), 1) := by decide +kernel
theorem dX0_find_19 : decode cX0_find 19 = .ok (.if_icmp .ne 4, 3) := by decide +kernel
theorem dX0_find_22 : decode cX0_find 22 = .ok (.return_, 1) := by decide +kernel
theorem dX0_find_23 : decode cX0_find 23 = .ok (.aload_n 0, 1) := by decide +kernel
theorem dX0_find_24 : decode cX0_find 24 = .ok (.getfield 18, 3) := by decide +kernel
theorem dX0_find_27 : decode cX0_find 27 = .ok (.iload_n 1, 1) := by decide +kernel
theorem dX0_find_28 : decode cX0_find 28 = .ok (.iaload, 1) := by decide +kernel
theorem dX0_find_29 : decode cX0_find 29 = .ok (.iconst (-1), 1) := by decide +kernel
theorem dX0_find_30 : decode cX0_find 30 = .ok (.if_icmp .ne 47, 3) := by decide +kernel
theorem dX0_find_33 : decode cX0_find 33 = .ok (.aload_n 0, 1) := by decide +kernel
theorem dX0_find_34 : decode cX0_find 34 = .ok (.getfield 80, 3) := by decide +kernel
theorem dX0_find_37 : decode cX0_find 37 = .ok (.ifCond .lt 40, 3) := by decide +kernel
theorem dX0_find_40 : decode cX0_find 40 = .ok (.aload_n 0, 1) := by decide +kernel
theorem dX0_find_41 : decode cX0_find 41 = .ok (.getfield 80, 3) := by decide +kernel
theorem dX0_find_44 : decode cX0_find 44 = .ok (.sipush 4096, 3) := by decide +kernel
theorem dX0_find_47 : decode cX0_find 47 = .ok (.if_icmp .ge 30, 3) := by decide +kernel
theorem dX0_find_50 : decode cX0_find 50 = .ok (.aload_n 0, 1) := by decide +kernel
theorem dX0_find_51 : decode cX0_find 51 = .ok (.getfield 18, 3) := by decide +kernel
theorem dX0_find_54 : decode cX0_find 54 = .ok (.iload_n 1, 1) := by decide +kernel
theorem dX0_find_55 : decode cX0_find 55 = .ok (.iload_n 2, 1) := by decide +kernel
theorem dX0_find_56 : decode cX0_find 56 = .ok (.iastore, 1) := by decide +kernel
theorem dX0_find_57 : decode cX0_find 57 = .ok (.aload_n 0, 1) := by decide +kernel
theorem dX0_find_58 : decode cX0_find 58 = .ok (.getfield 21, 3) := by decide +kernel
theorem dX0_find_61 : decode cX0_find 61 = .ok (.aload_n 0, 1) := by decide +kernel
theorem dX0_find_62 : decode cX0_find 62 = .ok (.getfield 80, 3) := by decide +kernel
theorem dX0_find_65 : decode cX0_find 65 = .ok (.iload_n 1, 1) := by decide +kernel
theorem dX0_find_66 : decode cX0_find 66 = .ok (.iastore, 1) := by decide +kernel
theorem dX0_find_67 : decode cX0_find 67 = .ok (.aload_n 0, 1) := by decide +kernel
theorem dX0_find_68 : decode cX0_find 68 = .ok (.dup, 1) := by decide +kernel
theorem dX0_find_69 : decode cX0_find 69 = .ok (.getfield 80, 3) := by decide +kernel
theorem dX0_find_72 : decode cX0_find 72 = .ok (.iconst 1, 1) := by decide +kernel
theorem dX0_find_73 : decode cX0_find 73 = .ok (.iadd, 1) := by decide +kernel
theorem dX0_find_74 : decode cX0_find 74 = .ok (.putfield 80, 3) := by decide +kernel
theorem dX0_find_77 : decode cX0_find 77 = .ok (.return_, 1) := by decide +kernel
theorem dX0_spread_0 : decode cX0_spread 0 = .ok (.iconst 0, 1) := by decide +kernel
theorem dX0_spread_1 : decode cX0_spread 1 = .ok (.istore_n 2, 1) := by decide +kernel
theorem dX0_spread_2 : decode cX0_spread 2 = .ok (.iload_n 2, 1) := by decide +kernel
theorem dX0_spread_3 : decode cX0_spread 3 = .ok (.aload_n 0, 1) := by decide +kernel
theorem dX0_spread_4 : decode cX0_spread 4 = .ok (.getfield 80, 3) := by decide +kernel
theorem dX0_spread_7 : decode cX0_spread 7 = .ok (.if_icmp .ge 77, 3) := by decide +kernel
theorem dX0_spread_10 : decode cX0_spread 10 = .ok (.iload_n 2, 1) := by decide +kernel
theorem dX0_spread_11 : decode cX0_spread 11 = .ok (.sipush 4096, 3) := by decide +kernel
theorem dX0_spread_14 : decode cX0_spread 14 = .ok (.if_icmp .ge 70, 3) := by decide +kernel
theorem dX0_spread_17 : decode cX0_spread 17 = .ok (.aload_n 0, 1) := by decide +kernel
theorem dX0_spread_18 : decode cX0_spread 18 = .ok (.aload_n 0, 1) := by decide +kernel
theorem dX0_spread_19 : decode cX0_spread 19 = .ok (.getfield 21, 3) := by decide +kernel
theorem dX0_spread_22 : decode cX0_spread 22 = .ok (.iload_n 2, 1) := by decide +kernel
theorem dX0_spread_23 : decode cX0_spread 23 = .ok (.iaload, 1) := by decide +kernel
theorem dX0_spread_24 : decode cX0_spread 24 = .ok (.invokevirtual 83, 3) := by decide +kernel
theorem dX0_spread_27 : decode cX0_spread 27 = .ok (.iconst 1, 1) := by decide +kernel
theorem dX0_spread_28 : decode cX0_spread 28 = .ok (.iadd, 1) := by decide +kernel
theorem dX0_spread_29 : decode cX0_spread 29 = .ok (.istore_n 3, 1) := by decide +kernel
theorem dX0_spread_30 : decode cX0_spread 30 = .ok (.iconst 0, 1) := by decide +kernel
theorem dX0_spread_31 : decode cX0_spread 31 = .ok (.istore 4, 2) := by decide +kernel
theorem dX0_spread_33 : decode cX0_spread 33 = .ok (.iload 4, 2) := by decide +kernel
theorem dX0_spread_35 : decode cX0_spread 35 = .ok (.aload_n 0, 1) := by decide +kernel
theorem dX0_spread_36 : decode cX0_spread 36 = .ok (.getfield 39, 3) := by decide +kernel
theorem dX0_spread_39 : decode cX0_spread 39 = .ok (.if_icmp .ge 39, 3) := by decide +kernel
theorem dX0_spread_42 : decode cX0_spread 42 = .ok (.aload_n 0, 1) := by decide +kernel
theorem dX0_spread_43 : decode cX0_spread 43 = .ok (.aload_n 0, 1) := by decide +kernel
theorem dX0_spread_44 : decode cX0_spread 44 = .ok (.getfield 21, 3) := by decide +kernel
theorem dX0_spread_47 : decode cX0_spread 47 = .ok (.iload_n 2, 1) := by decide +kernel
theorem dX0_spread_48 : decode cX0_spread 48 = .ok (.iaload, 1) := by decide +kernel
theorem dX0_spread_49 : decode cX0_spread 49 = .ok (.iload 4, 2) := by decide +kernel
theorem dX0_spread_51 : decode cX0_spread 51 = .ok (.iconst 1, 1) := by decide +kernel
theorem dX0_spread_52 : decode cX0_spread 52 = .ok (.iload_n 1, 1) := by decide +kernel
theorem dX0_spread_53 : decode cX0_spread 53 = .ok (.iload_n 3, 1) := by decide +kernel
theorem dX0_spread_54 : decode cX0_spread 54 = .ok (.invokevirtual 86, 3) := by decide +kernel
theorem dX0_spread_57 : decode cX0_spread 57 = .ok (.aload_n 0, 1) := by decide +kernel
theorem dX0_spread_58 : decode cX0_spread 58 = .ok (.aload_n 0, 1) := by decide +kernel
theorem dX0_spread_59 : decode cX0_spread 59 = .ok (.getfield 21, 3) := by decide +kernel
theorem dX0_spread_62 : decode cX0_spread 62 = .ok (.iload_n 2, 1) := by decide +kernel
theorem dX0_spread_63 : decode cX0_spread 63 = .ok (.iaload, 1) := by decide +kernel
theorem dX0_spread_64 : decode cX0_spread 64 = .ok (.iload 4, 2) := by decide +kernel
theorem dX0_spread_66 : decode cX0_spread 66 = .ok (.iconst (-1), 1) := by decide +kernel
theorem dX0_spread_67 : decode cX0_spread 67 = .ok (.iload_n 1, 1) := by decide +kernel
theorem dX0_spread_68 : decode cX0_spread 68 = .ok (.iload_n 3, 1) := by decide +kernel
theorem dX0_spread_69 : decode cX0_spread 69 = .ok (.invokevirtual 86, 3) := by decide +kernel
theorem dX0_spread_72 : decode cX0_spread 72 = .ok (.iinc 4 1, 3) := by decide +kernel
theorem dX0_spread_75 : decode cX0_spread 75 = .ok (.goto (-42), 3) := by decide +kernel
theorem dX0_spread_78 : decode cX0_spread 78 = .ok (.iinc 2 1, 3) := by decide +kernel
theorem dX0_spread_81 : decode cX0_spread 81 = .ok (.goto (-79), 3) := by decide +kernel
theorem dX0_spread_84 : decode cX0_spread 84 = .ok (.return_, 1) := by decide +kernel
theorem dX0_spreadAlong_0 : decode cX0_spreadAlong 0 = .ok (.aload_n 0, 1) := by decide +kernel
theorem dX0_spreadAlong_1 : decode cX0_spreadAlong 1 = .ok (.iload_n 1, 1) := by decide +kernel
theorem dX0_spreadAlong_2 : decode cX0_spreadAlong 2 = .ok (.iload_n 2, 1) := by decide +kernel
theorem dX0_spreadAlong_3 : decode cX0_spreadAlong 3 = .ok (.iload_n 3, 1) := by decide +kernel
theorem dX0_spreadAlong_4 : decode cX0_spreadAlong 4 = .ok (.invokevirtual 77, 3) := by decide +kernel
theorem dX0_spreadAlong_7 : decode cX0_spreadAlong 7 = .ok (.istore 6, 2) := by decide +kernel
theorem dX0_spreadAlong_9 : decode cX0_spreadAlong 9 = .ok (.iconst 1, 1) := by decide +kernel
theorem dX0_spreadAlong_10 : decode cX0_spreadAlong 10 = .ok (.istore 7, 2) := by decide +kernel
theorem dX0_spreadAlong_12 : decode cX0_spreadAlong 12 = .ok (.iload 7, 2) := by decide +kernel
theorem dX0_spreadAlong_14 : decode cX0_spreadAlong 14 = .ok (.iload 4, 2) := by decide +kernel
theorem dX0_spreadAlong_16 : decode cX0_spreadAlong 16 = .ok (.if_icmp .gt 33, 3) := by decide +kernel
theorem dX0_spreadAlong_19 : decode cX0_spreadAlong 19 = .ok (.iload 6, 2) := by decide +kernel
theorem dX0_spreadAlong_21 : decode cX0_spreadAlong 21 = .ok (.iconst (-1), 1) := by decide +kernel
theorem dX0_spreadAlong_22 : decode cX0_spreadAlong 22 = .ok (.if_icmp .eq 27, 3) := by decide +kernel
theorem dX0_spreadAlong_25 : decode cX0_spreadAlong 25 = .ok (.aload_n 0, 1) := by decide +kernel
theorem dX0_spreadAlong_26 : decode cX0_spreadAlong 26 = .ok (.iload 6, 2) := by decide +kernel
theorem dX0_spreadAlong_28 : decode cX0_spreadAlong 28 = .ok (.iload 5, 2) := by decide +kernel
theorem dX0_spreadAlong_30 : decode cX0_spreadAlong 30 = .ok (.invokevirtual 90, 3) := by decide +kernel
theorem dX0_spreadAlong_33 : decode cX0_spreadAlong 33 = .ok (.aload_n 0, 1) := by decide +kernel
theorem dX0_spreadAlong_34 : decode cX0_spreadAlong 34 = .ok (.iload 6, 2) := by decide +kernel
theorem dX0_spreadAlong_36 : decode cX0_spreadAlong 36 = .ok (.iload_n 2, 1) := by decide +kernel
theorem dX0_spreadAlong_37 : decode cX0_spreadAlong 37 = .ok (.iload_n 3, 1) := by decide +kernel
theorem dX0_spreadAlong_38 : decode cX0_spreadAlong 38 = .ok (.invokevirtual 77, 3) := by decide +kernel
theorem dX0_spreadAlong_41 : decode cX0_spreadAlong 41 = .ok (.istore 6, 2) := by decide +kernel
theorem dX0_spreadAlong_43 : decode cX0_spreadAlong 43 = .ok (.iinc 7 1, 3) := by decide +kernel
theorem dX0_spreadAlong_46 : decode cX0_spreadAlong 46 = .ok (.goto (-34), 3) := by decide +kernel
theorem dX0_spreadAlong_49 : decode cX0_spreadAlong 49 = .ok (.return_, 1) := by decide +kernel
theorem dX0_spreadFromStart_0 : decode cX0_spreadFromStart 0 = .ok (.aload_n 0, 1) := by decide +kernel
theorem dX0_spreadFromStart_1 : decode cX0_spreadFromStart 1 = .ok (.invokevirtual 93, 3) := by decide +kernel
theorem dX0_spreadFromStart_4 : decode cX0_spreadFromStart 4 = .ok (.aload_n 0, 1) := by decide +kernel
theorem dX0_spreadFromStart_5 : decode cX0_spreadFromStart 5 = .ok (.aload_n 0, 1) := by decide +kernel
theorem dX0_spreadFromStart_6 : decode cX0_spreadFromStart 6 = .ok (.getfield 46, 3) := by decide +kernel
theorem dX0_spreadFromStart_9 : decode cX0_spreadFromStart 9 = .ok (.iconst 0, 1) := by decide +kernel
theorem dX0_spreadFromStart_10 : decode cX0_spreadFromStart 10 = .ok (.invokevirtual 90, 3) := by decide +kernel
theorem dX0_spreadFromStart_13 : decode cX0_spreadFromStart 13 = .ok (.aload_n 0, 1) := by decide +kernel
theorem dX0_spreadFromStart_14 : decode cX0_spreadFromStart 14 = .ok (.iload_n 1, 1) := by decide +kernel
theorem dX0_spreadFromStart_15 : decode cX0_spreadFromStart 15 = .ok (.invokevirtual 96, 3) := by decide +kernel
theorem dX0_spreadFromStart_18 : decode cX0_spreadFromStart 18 = .ok (.return_, 1) := by decide +kernel
theorem dX0_slidesFromStart_0 : decode cX0_slidesFromStart 0 = .ok (.aload_n 0, 1) := by decide +kernel
theorem dX0_slidesFromStart_1 : decode cX0_slidesFromStart 1 = .ok (.iconst 3, 1) := by decide +kernel
theorem dX0_slidesFromStart_2 : decode cX0_slidesFromStart 2 = .ok (.invokevirtual 100, 3) := by decide +kernel
theorem dX0_slidesFromStart_5 : decode cX0_slidesFromStart 5 = .ok (.aload_n 0, 1) := by decide +kernel
theorem dX0_slidesFromStart_6 : decode cX0_slidesFromStart 6 = .ok (.invokevirtual 103, 3) := by decide +kernel
theorem dX0_slidesFromStart_9 : decode cX0_slidesFromStart 9 = .ok (.ireturn, 1) := by decide +kernel
theorem dX0_stepsFromStart_0 : decode cX0_stepsFromStart 0 = .ok (.aload_n 0, 1) := by decide +kernel
theorem dX0_stepsFromStart_1 : decode cX0_stepsFromStart 1 = .ok (.iconst 1, 1) := by decide +kernel
theorem dX0_stepsFromStart_2 : decode cX0_stepsFromStart 2 = .ok (.invokevirtual 100, 3) := by decide +kernel
theorem dX0_stepsFromStart_5 : decode cX0_stepsFromStart 5 = .ok (.aload_n 0, 1) := by decide +kernel
theorem dX0_stepsFromStart_6 : decode cX0_stepsFromStart 6 = .ok (.invokevirtual 103, 3) := by decide +kernel
theorem dX0_stepsFromStart_9 : decode cX0_stepsFromStart 9 = .ok (.ireturn, 1) := by decide +kernel
theorem dX0_slidesFromEnds_0 : decode cX0_slidesFromEnds 0 = .ok (.aload_n 0, 1) := by decide +kernel
theorem dX0_slidesFromEnds_1 : decode cX0_slidesFromEnds 1 = .ok (.invokevirtual 93, 3) := by decide +kernel
theorem dX0_slidesFromEnds_4 : decode cX0_slidesFromEnds 4 = .ok (.iconst 0, 1) := by decide +kernel
theorem dX0_slidesFromEnds_5 : decode cX0_slidesFromEnds 5 = .ok (.istore_n 1, 1) := by decide +kernel
theorem dX0_slidesFromEnds_6 : decode cX0_slidesFromEnds 6 = .ok (.iload_n 1, 1) := by decide +kernel
theorem dX0_slidesFromEnds_7 : decode cX0_slidesFromEnds 7 = .ok (.aload_n 0, 1) := by decide +kernel
theorem dX0_slidesFromEnds_8 : decode cX0_slidesFromEnds 8 = .ok (.getfield 43, 3) := by decide +kernel
theorem dX0_slidesFromEnds_11 : decode cX0_slidesFromEnds 11 = .ok (.if_icmp .ge 23, 3) := by decide +kernel
theorem dX0_slidesFromEnds_14 : decode cX0_slidesFromEnds 14 = .ok (.aload_n 0, 1) := by decide +kernel
theorem dX0_slidesFromEnds_15 : decode cX0_slidesFromEnds 15 = .ok (.iload_n 1, 1) := by decide +kernel
theorem dX0_slidesFromEnds_16 : decode cX0_slidesFromEnds 16 = .ok (.invokevirtual 107, 3) := by decide +kernel
theorem dX0_slidesFromEnds_19 : decode cX0_slidesFromEnds 19 = .ok (.ifCond .eq 9, 3) := by decide +kernel
theorem dX0_slidesFromEnds_22 : decode cX0_slidesFromEnds 22 = .ok (.aload_n 0, 1) := by decide +kernel
theorem dX0_slidesFromEnds_23 : decode cX0_slidesFromEnds 23 = .ok (.iload_n 1, 1) := by decide +kernel
theorem dX0_slidesFromEnds_24 : decode cX0_slidesFromEnds 24 = .ok (.iconst 0, 1) := by decide +kernel
theorem dX0_slidesFromEnds_25 : decode cX0_slidesFromEnds 25 = .ok (.invokevirtual 90, 3) := by decide +kernel
theorem dX0_slidesFromEnds_28 : decode cX0_slidesFromEnds 28 = .ok (.iinc 1 1, 3) := by decide +kernel
theorem dX0_slidesFromEnds_31 : decode cX0_slidesFromEnds 31 = .ok (.goto (-25), 3) := by decide +kernel
theorem dX0_slidesFromEnds_34 : decode cX0_slidesFromEnds 34 = .ok (.aload_n 0, 1) := by decide +kernel
theorem dX0_slidesFromEnds_35 : decode cX0_slidesFromEnds 35 = .ok (.iconst 3, 1) := by decide +kernel
theorem dX0_slidesFromEnds_36 : decode cX0_slidesFromEnds 36 = .ok (.invokevirtual 96, 3) := by decide +kernel
theorem dX0_slidesFromEnds_39 : decode cX0_slidesFromEnds 39 = .ok (.aload_n 0, 1) := by decide +kernel
theorem dX0_slidesFromEnds_40 : decode cX0_slidesFromEnds 40 = .ok (.aload_n 0, 1) := by decide +kernel
theorem dX0_slidesFromEnds_41 : decode cX0_slidesFromEnds 41 = .ok (.getfield 46, 3) := by decide +kernel
theorem dX0_slidesFromEnds_44 : decode cX0_slidesFromEnds 44 = .ok (.invokevirtual 83, 3) := by decide +kernel
theorem dX0_slidesFromEnds_47 : decode cX0_slidesFromEnds 47 = .ok (.ireturn, 1) := by decide +kernel
theorem dX0_leastCostOut_0 : decode cX0_leastCostOut 0 = .ok (.iconst (-1), 1) := by decide +kernel
theorem dX0_leastCostOut_1 : decode cX0_leastCostOut 1 = .ok (.istore_n 1, 1) := by decide +kernel
theorem dX0_leastCostOut_2 : decode cX0_leastCostOut 2 = .ok (.iconst 0, 1) := by decide +kernel
theorem dX0_leastCostOut_3 : decode cX0_leastCostOut 3 = .ok (.istore_n 2, 1) := by decide +kernel
theorem dX0_leastCostOut_4 : decode cX0_leastCostOut 4 = .ok (.iload_n 2, 1) := by decide +kernel
theorem dX0_leastCostOut_5 : decode cX0_leastCostOut 5 = .ok (.aload_n 0, 1) := by decide +kernel
theorem dX0_leastCostOut_6 : decode cX0_leastCostOut 6 = .ok (.getfield 43, 3) := by decide +kernel
theorem dX0_leastCostOut_9 : decode cX0_leastCostOut 9 = .ok (.if_icmp .ge 44, 3) := by decide +kernel
theorem dX0_leastCostOut_12 : decode cX0_leastCostOut 12 = .ok (.aload_n 0, 1) := by decide +kernel
theorem dX0_leastCostOut_13 : decode cX0_leastCostOut 13 = .ok (.iload_n 2, 1) := by decide +kernel
theorem dX0_leastCostOut_14 : decode cX0_leastCostOut 14 = .ok (.invokevirtual 107, 3) := by decide +kernel
theorem dX0_leastCostOut_17 : decode cX0_leastCostOut 17 = .ok (.ifCond .eq 11, 3) := by decide +kernel
theorem dX0_leastCostOut_20 : decode cX0_leastCostOut 20 = .ok (.aload_n 0, 1) := by decide +kernel
theorem dX0_leastCostOut_21 : decode cX0_leastCostOut 21 = .ok (.iload_n 2, 1) := by decide +kernel
theorem dX0_leastCostOut_22 : decode cX0_leastCostOut 22 = .ok (.invokevirtual 83, 3) := by decide +kernel
theorem dX0_leastCostOut_25 : decode cX0_leastCostOut 25 = .ok (.goto 4, 3) := by decide +kernel
theorem dX0_leastCostOut_28 : decode cX0_leastCostOut 28 = .ok (.iconst (-1), 1) := by decide +kernel
theorem dX0_leastCostOut_29 : decode cX0_leastCostOut 29 = .ok (.istore_n 3, 1) := by decide +kernel
theorem dX0_leastCostOut_30 : decode cX0_leastCostOut 30 = .ok (.iload_n 3, 1) := by decide +kernel
theorem dX0_leastCostOut_31 : decode cX0_leastCostOut 31 = .ok (.iconst (-1), 1) := by decide +kernel
theorem dX0_leastCostOut_32 : decode cX0_leastCostOut 32 = .ok (.if_icmp .eq 15, 3) := by decide +kernel
theorem dX0_leastCostOut_35 : decode cX0_leastCostOut 35 = .ok (.iload_n 1, 1) := by decide +kernel
theorem dX0_leastCostOut_36 : decode cX0_leastCostOut 36 = .ok (.iconst (-1), 1) := by decide +kernel
theorem dX0_leastCostOut_37 : decode cX0_leastCostOut 37 = .ok (.if_icmp .eq 8, 3) := by decide +kernel
theorem dX0_leastCostOut_40 : decode cX0_leastCostOut 40 = .ok (.iload_n 3, 1) := by decide +kernel
theorem dX0_leastCostOut_41 : decode cX0_leastCostOut 41 = .ok (.iload_n 1, 1) := by decide +kernel
theorem dX0_leastCostOut_42 : decode cX0_leastCostOut 42 = .ok (.if_icmp .ge 5, 3) := by decide +kernel
theorem dX0_leastCostOut_45 : decode cX0_leastCostOut 45 = .ok (.iload_n 3, 1) := by decide +kernel
theorem dX0_leastCostOut_46 : decode cX0_leastCostOut 46 = .ok (.istore_n 1, 1) := by decide +kernel
theorem dX0_leastCostOut_47 : decode cX0_leastCostOut 47 = .ok (.iinc 2 1, 3) := by decide +kernel
theorem dX0_leastCostOut_50 : decode cX0_leastCostOut 50 = .ok (.goto (-46), 3) := by decide +kernel
theorem dX0_leastCostOut_53 : decode cX0_leastCostOut 53 = .ok (.iload_n 1, 1) := by decide +kernel
theorem dX0_leastCostOut_54 : decode cX0_leastCostOut 54 = .ok (.ireturn, 1) := by decide +kernel
theorem dX0_foundOut_0 : decode cX0_foundOut 0 = .ok (.iconst 0, 1) := by decide +kernel
theorem dX0_foundOut_1 : decode cX0_foundOut 1 = .ok (.istore_n 1, 1) := by decide +kernel
theorem dX0_foundOut_2 : decode cX0_foundOut 2 = .ok (.iconst 0, 1) := by decide +kernel
theorem dX0_foundOut_3 : decode cX0_foundOut 3 = .ok (.istore_n 2, 1) := by decide +kernel
theorem dX0_foundOut_4 : decode cX0_foundOut 4 = .ok (.iload_n 2, 1) := by decide +kernel
theorem dX0_foundOut_5 : decode cX0_foundOut 5 = .ok (.aload_n 0, 1) := by decide +kernel
theorem dX0_foundOut_6 : decode cX0_foundOut 6 = .ok (.getfield 80, 3) := by decide +kernel
theorem dX0_foundOut_9 : decode cX0_foundOut 9 = .ok (.if_icmp .ge 32, 3) := by decide +kernel
theorem dX0_foundOut_12 : decode cX0_foundOut 12 = .ok (.iload_n 2, 1) := by decide +kernel
theorem dX0_foundOut_13 : decode cX0_foundOut 13 = .ok (.sipush 4096, 3) := by decide +kernel
theorem dX0_foundOut_16 : decode cX0_foundOut 16 = .ok (.if_icmp .ge 25, 3) := by decide +kernel
theorem dX0_foundOut_19 : decode cX0_foundOut 19 = .ok (.aload_n 0, 1) := by decide +kernel
theorem dX0_foundOut_20 : decode cX0_foundOut 20 = .ok (.aload_n 0, 1) := by decide +kernel
theorem dX0_foundOut_21 : decode cX0_foundOut 21 = .ok (.getfield 21, 3) := by decide +kernel
theorem dX0_foundOut_24 : decode cX0_foundOut 24 = .ok (.iload_n 2, 1) := by decide +kernel
theorem dX0_foundOut_25 : decode cX0_foundOut 25 = .ok (.iaload, 1) := by decide +kernel
theorem dX0_foundOut_26 : decode cX0_foundOut 26 = .ok (.invokevirtual 107, 3) := by decide +kernel
theorem dX0_foundOut_29 : decode cX0_foundOut 29 = .ok (.ifCond .eq 6, 3) := by decide +kernel
theorem dX0_foundOut_32 : decode cX0_foundOut 32 = .ok (.iinc 1 1, 3) := by decide +kernel
theorem dX0_foundOut_35 : decode cX0_foundOut 35 = .ok (.iinc 2 1, 3) := by decide +kernel
theorem dX0_foundOut_38 : decode cX0_foundOut 38 = .ok (.goto (-34), 3) := by decide +kernel
theorem dX0_foundOut_41 : decode cX0_foundOut 41 = .ok (.iload_n 1, 1) := by decide +kernel
theorem dX0_foundOut_42 : decode cX0_foundOut 42 = .ok (.ireturn, 1) := by decide +kernel
theorem dX0_farthestFound_0 : decode cX0_farthestFound 0 = .ok (.aload_n 0, 1) := by decide +kernel
theorem dX0_farthestFound_1 : decode cX0_farthestFound 1 = .ok (.getfield 80, 3) := by decide +kernel
theorem dX0_farthestFound_4 : decode cX0_farthestFound 4 = .ok (.iconst 1, 1) := by decide +kernel
theorem dX0_farthestFound_5 : decode cX0_farthestFound 5 = .ok (.isub, 1) := by decide +kernel
theorem dX0_farthestFound_6 : decode cX0_farthestFound 6 = .ok (.istore_n 1, 1) := by decide +kernel
theorem dX0_farthestFound_7 : decode cX0_farthestFound 7 = .ok (.iload_n 1, 1) := by decide +kernel
theorem dX0_farthestFound_8 : decode cX0_farthestFound 8 = .ok (.ifCond .lt 23, 3) := by decide +kernel
theorem dX0_farthestFound_11 : decode cX0_farthestFound 11 = .ok (.iload_n 1, 1) := by decide +kernel
theorem dX0_farthestFound_12 : decode cX0_farthestFound 12 = .ok (.sipush 4096, 3) := by decide +kernel
theorem dX0_farthestFound_15 : decode cX0_farthestFound 15 = .ok (.if_icmp .ge 16, 3) := by decide +kernel
theorem dX0_farthestFound_18 : decode cX0_farthestFound 18 = .ok (.aload_n 0, 1) := by decide +kernel
theorem dX0_farthestFound_19 : decode cX0_farthestFound 19 = .ok (.aload_n 0, 1) := by decide +kernel
theorem dX0_farthestFound_20 : decode cX0_farthestFound 20 = .ok (.getfield 21, 3) := by decide +kernel
theorem dX0_farthestFound_23 : decode cX0_farthestFound 23 = .ok (.iload_n 1, 1) := by decide +kernel
theorem dX0_farthestFound_24 : decode cX0_farthestFound 24 = .ok (.iaload, 1) := by decide +kernel
theorem dX0_farthestFound_25 : decode cX0_farthestFound 25 = .ok (.invokevirtual 83, 3) := by decide +kernel
theorem dX0_farthestFound_28 : decode cX0_farthestFound 28 = .ok (.goto 4, 3) := by decide +kernel
theorem dX0_farthestFound_31 : decode cX0_farthestFound 31 = .ok (.iconst 0, 1) := by decide +kernel
theorem dX0_farthestFound_32 : decode cX0_farthestFound 32 = .ok (.ireturn, 1) := by decide +kernel
theorem dX0_findNextSlide_0 : decode cX0_findNextSlide 0 = .ok (.aload_n 0, 1) := by decide +kernel
theorem dX0_findNextSlide_1 : decode cX0_findNextSlide 1 = .ok (.iload_n 1, 1) := by decide +kernel
theorem dX0_findNextSlide_2 : decode cX0_findNextSlide 2 = .ok (.invokevirtual 83, 3) := by decide +kernel
theorem dX0_findNextSlide_5 : decode cX0_findNextSlide 5 = .ok (.istore_n 2, 1) := by decide +kernel
theorem dX0_findNextSlide_6 : decode cX0_findNextSlide 6 = .ok (.iconst 0, 1) := by decide +kernel
theorem dX0_findNextSlide_7 : decode cX0_findNextSlide 7 = .ok (.istore_n 3, 1) := by decide +kernel
theorem dX0_findNextSlide_8 : decode cX0_findNextSlide 8 = .ok (.iload_n 3, 1) := by decide +kernel
theorem dX0_findNextSlide_9 : decode cX0_findNextSlide 9 = .ok (.aload_n 0, 1) := by decide +kernel
theorem dX0_findNextSlide_10 : decode cX0_findNextSlide 10 = .ok (.getfield 39, 3) := by decide +kernel
theorem dX0_findNextSlide_13 : decode cX0_findNextSlide 13 = .ok (.if_icmp .ge 65, 3) := by decide +kernel
theorem dX0_findNextSlide_16 : decode cX0_findNextSlide 16 = .ok (.iload_n 2, 1) := by decide +kernel
theorem dX0_findNextSlide_17 : decode cX0_findNextSlide 17 = .ok (.ifCond .le 61, 3) := by decide +kernel
theorem dX0_findNextSlide_20 : decode cX0_findNextSlide 20 = .ok (.bipush (-3), 2) := by decide +kernel
theorem dX0_findNextSlide_22 : decode cX0_findNextSlide 22 = .ok (.istore 4, 2) := by decide +kernel
theorem dX0_findNextSlide_24 : decode cX0_findNextSlide 24 = .ok (.iload 4, 2) := by decide +kernel
theorem dX0_findNextSlide_26 : decode cX0_findNextSlide 26 = .ok (.iconst 3, 1) := by decide +kernel
theorem dX0_findNextSlide_27 : decode cX0_findNextSlide 27 = .ok (.if_icmp .gt 45, 3) := by decide +kernel
theorem dX0_findNextSlide_30 : decode cX0_findNextSlide 30 = .ok (.iload 4, 2) := by decide +kernel
theorem dX0_findNextSlide_32 : decode cX0_findNextSlide 32 = .ok (.ifCond .eq 34, 3) := by decide +kernel
theorem dX0_findNextSlide_35 : decode cX0_findNextSlide 35 = .ok (.aload_n 0, 1) := by decide +kernel
theorem dX0_findNextSlide_36 : decode cX0_findNextSlide 36 = .ok (.aload_n 0, 1) := by decide +kernel
theorem dX0_findNextSlide_37 : decode cX0_findNextSlide 37 = .ok (.iload_n 1, 1) := by decide +kernel
theorem dX0_findNextSlide_38 : decode cX0_findNextSlide 38 = .ok (.iload_n 3, 1) := by decide +kernel
theorem dX0_findNextSlide_39 : decode cX0_findNextSlide 39 = .ok (.iload 4, 2) := by decide +kernel
theorem dX0_findNextSlide_41 : decode cX0_findNextSlide 41 = .ok (.invokevirtual 110, 3) := by decide +kernel
theorem dX0_findNextSlide_44 : decode cX0_findNextSlide 44 = .ok (.invokevirtual 83, 3) := by decide +kernel
theorem dX0_findNextSlide_47 : decode cX0_findNextSlide 47 = .ok (.iload_n 2, 1) := by decide +kernel
theorem dX0_findNextSlide_48 : decode cX0_findNextSlide 48 = .ok (.iconst 1, 1) := by decide +kernel
theorem dX0_findNextSlide_49 : decode cX0_findNextSlide 49 = .ok (.isub, 1) := by decide +kernel
theorem dX0_findNextSlide_50 : decode cX0_findNextSlide 50 = .ok (.if_icmp .ne 16, 3) := by decide +kernel
theorem dX0_findNextSlide_53 : decode cX0_findNextSlide 53 = .ok (.aload_n 0, 1) := by decide +kernel
theorem dX0_findNextSlide_54 : decode cX0_findNextSlide 54 = .ok (.iload_n 3, 1) := by decide +kernel
theorem dX0_findNextSlide_55 : decode cX0_findNextSlide 55 = .ok (.putfield 113, 3) := by decide +kernel
theorem dX0_findNextSlide_58 : decode cX0_findNextSlide 58 = .ok (.aload_n 0, 1) := by decide +kernel
theorem dX0_findNextSlide_59 : decode cX0_findNextSlide 59 = .ok (.iload 4, 2) := by decide +kernel
theorem dX0_findNextSlide_61 : decode cX0_findNextSlide 61 = .ok (.putfield 116, 3) := by decide +kernel
theorem dX0_findNextSlide_64 : decode cX0_findNextSlide 64 = .ok (.iconst 1, 1) := by decide +kernel
theorem dX0_findNextSlide_65 : decode cX0_findNextSlide 65 = .ok (.ireturn, 1) := by decide +kernel
theorem dX0_findNextSlide_66 : decode cX0_findNextSlide 66 = .ok (.iinc 4 1, 3) := by decide +kernel
theorem dX0_findNextSlide_69 : decode cX0_findNextSlide 69 = .ok (.goto (-45), 3) := by decide +kernel
theorem dX0_findNextSlide_72 : decode cX0_findNextSlide 72 = .ok (.iinc 3 1, 3) := by decide +kernel
theorem dX0_findNextSlide_75 : decode cX0_findNextSlide 75 = .ok (.goto (-67), 3) := by decide +kernel
theorem dX0_findNextSlide_78 : decode cX0_findNextSlide 78 = .ok (.iconst 0, 1) := by decide +kernel
theorem dX0_findNextSlide_79 : decode cX0_findNextSlide 79 = .ok (.ireturn, 1) := by decide +kernel
theorem dX0_fuelByBuckets_0 : decode cX0_fuelByBuckets 0 = .ok (.aload_n 0, 1) := by decide +kernel
theorem dX0_fuelByBuckets_1 : decode cX0_fuelByBuckets 1 = .ok (.invokevirtual 93, 3) := by decide +kernel
theorem dX0_fuelByBuckets_4 : decode cX0_fuelByBuckets 4 = .ok (.iconst 0, 1) := by decide +kernel
theorem dX0_fuelByBuckets_5 : decode cX0_fuelByBuckets 5 = .ok (.istore_n 1, 1) := by decide +kernel
theorem dX0_fuelByBuckets_6 : decode cX0_fuelByBuckets 6 = .ok (.iload_n 1, 1) := by decide +kernel
theorem dX0_fuelByBuckets_7 : decode cX0_fuelByBuckets 7 = .ok (.iconst 4, 1) := by decide +kernel
theorem dX0_fuelByBuckets_8 : decode cX0_fuelByBuckets 8 = .ok (.if_icmp .ge 16, 3) := by decide +kernel
theorem dX0_fuelByBuckets_11 : decode cX0_fuelByBuckets 11 = .ok (.aload_n 0, 1) := by decide +kernel
theorem dX0_fuelByBuckets_12 : decode cX0_fuelByBuckets 12 = .ok (.getfield 27, 3) := by decide +kernel
theorem dX0_fuelByBuckets_15 : decode cX0_fuelByBuckets 15 = .ok (.iload_n 1, 1) := by decide +kernel
theorem dX0_fuelByBuckets_16 : decode cX0_fuelByBuckets 16 = .ok (.iconst 0, 1) := by decide +kernel
theorem dX0_fuelByBuckets_17 : decode cX0_fuelByBuckets 17 = .ok (.iastore, 1) := by decide +kernel
theorem dX0_fuelByBuckets_18 : decode cX0_fuelByBuckets 18 = .ok (.iinc 1 1, 3) := by decide +kernel
theorem dX0_fuelByBuckets_21 : decode cX0_fuelByBuckets 21 = .ok (.goto (-15), 3) := by decide +kernel
theorem dX0_fuelByBuckets_24 : decode cX0_fuelByBuckets 24 = .ok (.aload_n 0, 1) := by decide +kernel
theorem dX0_fuelByBuckets_25 : decode cX0_fuelByBuckets 25 = .ok (.aload_n 0, 1) := by decide +kernel
theorem dX0_fuelByBuckets_26 : decode cX0_fuelByBuckets 26 = .ok (.getfield 46, 3) := by decide +kernel
theorem dX0_fuelByBuckets_29 : decode cX0_fuelByBuckets 29 = .ok (.iconst 0, 1) := by decide +kernel
theorem dX0_fuelByBuckets_30 : decode cX0_fuelByBuckets 30 = .ok (.invokevirtual 119, 3) := by decide +kernel
theorem dX0_fuelByBuckets_33 : decode cX0_fuelByBuckets 33 = .ok (.iconst 0, 1) := by decide +kernel
theorem dX0_fuelByBuckets_34 : decode cX0_fuelByBuckets 34 = .ok (.istore_n 1, 1) := by decide +kernel
theorem dX0_fuelByBuckets_35 : decode cX0_fuelByBuckets 35 = .ok (.iload_n 1, 1) := by decide +kernel
theorem dX0_fuelByBuckets_36 : decode cX0_fuelByBuckets 36 = .ok (.sipush 12288, 3) := by decide +kernel
theorem dX0_fuelByBuckets_39 : decode cX0_fuelByBuckets 39 = .ok (.if_icmp .gt 31, 3) := by decide +kernel
theorem dX0_fuelByBuckets_42 : decode cX0_fuelByBuckets 42 = .ok (.aload_n 0, 1) := by decide +kernel
theorem dX0_fuelByBuckets_43 : decode cX0_fuelByBuckets 43 = .ok (.invokevirtual 122, 3) := by decide +kernel
theorem dX0_fuelByBuckets_46 : decode cX0_fuelByBuckets 46 = .ok (.ifCond .eq 24, 3) := by decide +kernel
theorem dX0_fuelByBuckets_49 : decode cX0_fuelByBuckets 49 = .ok (.aload_n 0, 1) := by decide +kernel
theorem dX0_fuelByBuckets_50 : decode cX0_fuelByBuckets 50 = .ok (.iload_n 1, 1) := by decide +kernel
theorem dX0_fuelByBuckets_51 : decode cX0_fuelByBuckets 51 = .ok (.invokevirtual 126, 3) := by decide +kernel
theorem dX0_fuelByBuckets_54 : decode cX0_fuelByBuckets 54 = .ok (.ifCond .eq 5, 3) := by decide +kernel
theorem dX0_fuelByBuckets_57 : decode cX0_fuelByBuckets 57 = .ok (.iload_n 1, 1) := by decide +kernel
theorem dX0_fuelByBuckets_58 : decode cX0_fuelByBuckets 58 = .ok (.ireturn, 1) := by decide +kernel
theorem dX0_fuelByBuckets_59 : decode cX0_fuelByBuckets 59 = .ok (.aload_n 0, 1) := by decide +kernel
theorem dX0_fuelByBuckets_60 : decode cX0_fuelByBuckets 60 = .ok (.iload_n 1, 1) := by decide +kernel
theorem dX0_fuelByBuckets_61 : decode cX0_fuelByBuckets 61 = .ok (.invokevirtual 129, 3) := by decide +kernel
theorem dX0_fuelByBuckets_64 : decode cX0_fuelByBuckets 64 = .ok (.iinc 1 1, 3) := by decide +kernel
theorem dX0_fuelByBuckets_67 : decode cX0_fuelByBuckets 67 = .ok (.goto (-32), 3) := by decide +kernel
theorem dX0_fuelByBuckets_70 : decode cX0_fuelByBuckets 70 = .ok (.iconst (-1), 1) := by decide +kernel
theorem dX0_fuelByBuckets_71 : decode cX0_fuelByBuckets 71 = .ok (.ireturn, 1) := by decide +kernel
theorem dX0_isAnyFilled_0 : decode cX0_isAnyFilled 0 = .ok (.aload_n 0, 1) := by decide +kernel
theorem dX0_isAnyFilled_1 : decode cX0_isAnyFilled 1 = .ok (.getfield 27, 3) := by decide +kernel
theorem dX0_isAnyFilled_4 : decode cX0_isAnyFilled 4 = .ok (.iconst 0, 1) := by decide +kernel
theorem dX0_isAnyFilled_5 : decode cX0_isAnyFilled 5 = .ok (.iaload, 1) := by decide +kernel
theorem dX0_isAnyFilled_6 : decode cX0_isAnyFilled 6 = .ok (.aload_n 0, 1) := by decide +kernel
theorem dX0_isAnyFilled_7 : decode cX0_isAnyFilled 7 = .ok (.getfield 27, 3) := by decide +kernel
theorem dX0_isAnyFilled_10 : decode cX0_isAnyFilled 10 = .ok (.iconst 1, 1) := by decide +kernel
theorem dX0_isAnyFilled_11 : decode cX0_isAnyFilled 11 = .ok (.iaload, 1) := by decide +kernel
theorem dX0_isAnyFilled_12 : decode cX0_isAnyFilled 12 = .ok (.iadd, 1) := by decide +kernel
theorem dX0_isAnyFilled_13 : decode cX0_isAnyFilled 13 = .ok (.aload_n 0, 1) := by decide +kernel
theorem dX0_isAnyFilled_14 : decode cX0_isAnyFilled 14 = .ok (.getfield 27, 3) := by decide +kernel
theorem dX0_isAnyFilled_17 : decode cX0_isAnyFilled 17 = .ok (.iconst 2, 1) := by decide +kernel
theorem dX0_isAnyFilled_18 : decode cX0_isAnyFilled 18 = .ok (.iaload, 1) := by decide +kernel
theorem dX0_isAnyFilled_19 : decode cX0_isAnyFilled 19 = .ok (.iadd, 1) := by decide +kernel
theorem dX0_isAnyFilled_20 : decode cX0_isAnyFilled 20 = .ok (.aload_n 0, 1) := by decide +kernel
theorem dX0_isAnyFilled_21 : decode cX0_isAnyFilled 21 = .ok (.getfield 27, 3) := by decide +kernel
theorem dX0_isAnyFilled_24 : decode cX0_isAnyFilled 24 = .ok (.iconst 3, 1) := by decide +kernel
theorem dX0_isAnyFilled_25 : decode cX0_isAnyFilled 25 = .ok (.iaload, 1) := by decide +kernel
theorem dX0_isAnyFilled_26 : decode cX0_isAnyFilled 26 = .ok (.iadd, 1) := by decide +kernel
theorem dX0_isAnyFilled_27 : decode cX0_isAnyFilled 27 = .ok (.ifCond .le 7, 3) := by decide +kernel
theorem dX0_isAnyFilled_30 : decode cX0_isAnyFilled 30 = .ok (.iconst 1, 1) := by decide +kernel
theorem dX0_isAnyFilled_31 : decode cX0_isAnyFilled 31 = .ok (.goto 4, 3) := by decide +kernel
theorem dX0_isAnyFilled_34 : decode cX0_isAnyFilled 34 = .ok (.iconst 0, 1) := by decide +kernel
theorem dX0_isAnyFilled_35 : decode cX0_isAnyFilled 35 = .ok (.ireturn, 1) := by decide +kernel
theorem dX0_inBucket_0 : decode cX0_inBucket 0 = .ok (.iload_n 1, 1) := by decide +kernel
theorem dX0_inBucket_1 : decode cX0_inBucket 1 = .ok (.iconst 3, 1) := by decide +kernel
theorem dX0_inBucket_2 : decode cX0_inBucket 2 = .ok (.iand, 1) := by decide +kernel
theorem dX0_inBucket_3 : decode cX0_inBucket 3 = .ok (.sipush 4096, 3) := by decide +kernel
theorem dX0_inBucket_6 : decode cX0_inBucket 6 = .ok (.imul, 1) := by decide +kernel
theorem dX0_inBucket_7 : decode cX0_inBucket 7 = .ok (.iload_n 2, 1) := by decide +kernel
theorem dX0_inBucket_8 : decode cX0_inBucket 8 = .ok (.iadd, 1) := by decide +kernel
theorem dX0_inBucket_9 : decode cX0_inBucket 9 = .ok (.istore_n 3, 1) := by decide +kernel
theorem dX0_inBucket_10 : decode cX0_inBucket 10 = .ok (.iload_n 3, 1) := by decide +kernel
theorem dX0_inBucket_11 : decode cX0_inBucket 11 = .ok (.ifCond .lt 19, 3) := by decide +kernel
theorem dX0_inBucket_14 : decode cX0_inBucket 14 = .ok (.iload_n 3, 1) := by decide +kernel
theorem dX0_inBucket_15 : decode cX0_inBucket 15 = .ok (.sipush 16384, 3) := by decide +kernel
theorem dX0_inBucket_18 : decode cX0_inBucket 18 = .ok (.if_icmp .ge 12, 3) := by decide +kernel
theorem dX0_inBucket_21 : decode cX0_inBucket 21 = .ok (.aload_n 0, 1) := by decide +kernel
theorem dX0_inBucket_22 : decode cX0_inBucket 22 = .ok (.getfield 24, 3) := by decide +kernel
theorem dX0_inBucket_25 : decode cX0_inBucket 25 = .ok (.iload_n 3, 1) := by decide +kernel
theorem dX0_inBucket_26 : decode cX0_inBucket 26 = .ok (.iaload, 1) := by decide +kernel
theorem dX0_inBucket_27 : decode cX0_inBucket 27 = .ok (.goto 4, 3) := by decide +kernel
theorem dX0_inBucket_30 : decode cX0_inBucket 30 = .ok (.iconst (-1), 1) := by decide +kernel
theorem dX0_inBucket_31 : decode cX0_inBucket 31 = .ok (.istore 4, 2) := by decide +kernel
theorem dX0_inBucket_33 : decode cX0_inBucket 33 = .ok (.aload_n 0, 1) := by decide +kernel
theorem dX0_inBucket_34 : decode cX0_inBucket 34 = .ok (.iload 4, 2) := by decide +kernel
theorem dX0_inBucket_36 : decode cX0_inBucket 36 = .ok (.invokevirtual 83, 3) := by decide +kernel
theorem dX0_inBucket_39 : decode cX0_inBucket 39 = .ok (.iload_n 1, 1) := by decide +kernel
theorem dX0_inBucket_40 : decode cX0_inBucket 40 = .ok (.if_icmp .ne 8, 3) := by decide +kernel
theorem dX0_inBucket_43 : decode cX0_inBucket 43 = .ok (.iload 4, 2) := by decide +kernel
theorem dX0_inBucket_45 : decode cX0_inBucket 45 = .ok (.goto 4, 3) := by decide +kernel
theorem dX0_inBucket_48 : decode cX0_inBucket 48 = .ok (.iconst (-1), 1) := by decide +kernel
theorem dX0_inBucket_49 : decode cX0_inBucket 49 = .ok (.ireturn, 1) := by decide +kernel
theorem dX0_hasOutFor_0 : decode cX0_hasOutFor 0 = .ok (.iconst 0, 1) := by decide +kernel
theorem dX0_hasOutFor_1 : decode cX0_hasOutFor 1 = .ok (.istore_n 2, 1) := by decide +kernel
theorem dX0_hasOutFor_2 : decode cX0_hasOutFor 2 = .ok (.iload_n 2, 1) := by decide +kernel
theorem dX0_hasOutFor_3 : decode cX0_hasOutFor 3 = .ok (.aload_n 0, 1) := by decide +kernel
theorem dX0_hasOutFor_4 : decode cX0_hasOutFor 4 = .ok (.getfield 27, 3) := by decide +kernel
theorem dX0_hasOutFor_7 : decode cX0_hasOutFor 7 = .ok (.iload_n 1, 1) := by decide +kernel
theorem dX0_hasOutFor_8 : decode cX0_hasOutFor 8 = .ok (.iconst 3, 1) := by decide +kernel
theorem dX0_hasOutFor_9 : decode cX0_hasOutFor 9 = .ok (.iand, 1) := by decide +kernel
theorem dX0_hasOutFor_10 : decode cX0_hasOutFor 10 = .ok (.iaload, 1) := by decide +kernel
theorem dX0_hasOutFor_11 : decode cX0_hasOutFor 11 = .ok (.if_icmp .ge 31, 3) := by decide +kernel
theorem dX0_hasOutFor_14 : decode cX0_hasOutFor 14 = .ok (.aload_n 0, 1) := by decide +kernel
theorem dX0_hasOutFor_15 : decode cX0_hasOutFor 15 = .ok (.iload_n 1, 1) := by decide +kernel
theorem dX0_hasOutFor_16 : decode cX0_hasOutFor 16 = .ok (.iload_n 2, 1) := by decide +kernel
theorem dX0_hasOutFor_17 : decode cX0_hasOutFor 17 = .ok (.invokevirtual 132, 3) := by decide +kernel
theorem dX0_hasOutFor_20 : decode cX0_hasOutFor 20 = .ok (.istore_n 3, 1) := by decide +kernel
theorem dX0_hasOutFor_21 : decode cX0_hasOutFor 21 = .ok (.iload_n 3, 1) := by decide +kernel
theorem dX0_hasOutFor_22 : decode cX0_hasOutFor 22 = .ok (.iconst (-1), 1) := by decide +kernel
theorem dX0_hasOutFor_23 : decode cX0_hasOutFor 23 = .ok (.if_icmp .eq 13, 3) := by decide +kernel
theorem dX0_hasOutFor_26 : decode cX0_hasOutFor 26 = .ok (.aload_n 0, 1) := by decide +kernel
theorem dX0_hasOutFor_27 : decode cX0_hasOutFor 27 = .ok (.iload_n 3, 1) := by decide +kernel
theorem dX0_hasOutFor_28 : decode cX0_hasOutFor 28 = .ok (.invokevirtual 107, 3) := by decide +kernel
theorem dX0_hasOutFor_31 : decode cX0_hasOutFor 31 = .ok (.ifCond .eq 5, 3) := by decide +kernel
theorem dX0_hasOutFor_34 : decode cX0_hasOutFor 34 = .ok (.iconst 1, 1) := by decide +kernel
theorem dX0_hasOutFor_35 : decode cX0_hasOutFor 35 = .ok (.ireturn, 1) := by decide +kernel
theorem dX0_hasOutFor_36 : decode cX0_hasOutFor 36 = .ok (.iinc 2 1, 3) := by decide +kernel
theorem dX0_hasOutFor_39 : decode cX0_hasOutFor 39 = .ok (.goto (-37), 3) := by decide +kernel
theorem dX0_hasOutFor_42 : decode cX0_hasOutFor 42 = .ok (.iconst 0, 1) := by decide +kernel
theorem dX0_hasOutFor_43 : decode cX0_hasOutFor 43 = .ok (.ireturn, 1) := by decide +kernel
theorem dX0_emptyBucket_0 : decode cX0_emptyBucket 0 = .ok (.aload_n 0, 1) := by decide +kernel
theorem dX0_emptyBucket_1 : decode cX0_emptyBucket 1 = .ok (.getfield 27, 3) := by decide +kernel
theorem dX0_emptyBucket_4 : decode cX0_emptyBucket 4 = .ok (.iload_n 1, 1) := by decide +kernel
theorem dX0_emptyBucket_5 : decode cX0_emptyBucket 5 = .ok (.iconst 3, 1) := by decide +kernel
theorem dX0_emptyBucket_6 : decode cX0_emptyBucket 6 = .ok (.iand, 1) := by decide +kernel
theorem dX0_emptyBucket_7 : decode cX0_emptyBucket 7 = .ok (.iaload, 1) := by decide +kernel
theorem dX0_emptyBucket_8 : decode cX0_emptyBucket 8 = .ok (.istore_n 2, 1) := by decide +kernel
theorem dX0_emptyBucket_9 : decode cX0_emptyBucket 9 = .ok (.iconst 0, 1) := by decide +kernel
theorem dX0_emptyBucket_10 : decode cX0_emptyBucket 10 = .ok (.istore_n 3, 1) := by decide +kernel
theorem dX0_emptyBucket_11 : decode cX0_emptyBucket 11 = .ok (.iload_n 3, 1) := by decide +kernel
theorem dX0_emptyBucket_12 : decode cX0_emptyBucket 12 = .ok (.iload_n 2, 1) := by decide +kernel
theorem dX0_emptyBucket_13 : decode cX0_emptyBucket 13 = .ok (.if_icmp .ge 92, 3) := by decide +kernel
theorem dX0_emptyBucket_16 : decode cX0_emptyBucket 16 = .ok (.aload_n 0, 1) := by decide +kernel
theorem dX0_emptyBucket_17 : decode cX0_emptyBucket 17 = .ok (.iload_n 1, 1) := by decide +kernel
theorem dX0_emptyBucket_18 : decode cX0_emptyBucket 18 = .ok (.iload_n 3, 1) := by decide +kernel
theorem dX0_emptyBucket_19 : decode cX0_emptyBucket 19 = .ok (.invokevirtual 132, 3) := by decide +kernel
theorem dX0_emptyBucket_22 : decode cX0_emptyBucket 22 = .ok (.istore 4, 2) := by decide +kernel
theorem dX0_emptyBucket_24 : decode cX0_emptyBucket 24 = .ok (.iconst 0, 1) := by decide +kernel
theorem dX0_emptyBucket_25 : decode cX0_emptyBucket 25 = .ok (.istore 5, 2) := by decide +kernel
theorem dX0_emptyBucket_27 : decode cX0_emptyBucket 27 = .ok (.iload 5, 2) := by decide +kernel
theorem dX0_emptyBucket_29 : decode cX0_emptyBucket 29 = .ok (.aload_n 0, 1) := by decide +kernel
theorem dX0_emptyBucket_30 : decode cX0_emptyBucket 30 = .ok (.getfield 39, 3) := by decide +kernel
theorem dX0_emptyBucket_33 : decode cX0_emptyBucket 33 = .ok (.if_icmp .ge 66, 3) := by decide +kernel
theorem dX0_emptyBucket_36 : decode cX0_emptyBucket 36 = .ok (.iload 5, 2) := by decide +kernel
theorem dX0_emptyBucket_38 : decode cX0_emptyBucket 38 = .ok (.bipush 6, 2) := by decide +kernel
theorem dX0_emptyBucket_40 : decode cX0_emptyBucket 40 = .ok (.if_icmp .ge 59, 3) := by decide +kernel
theorem dX0_emptyBucket_43 : decode cX0_emptyBucket 43 = .ok (.iload 4, 2) := by decide +kernel
theorem dX0_emptyBucket_45 : decode cX0_emptyBucket 45 = .ok (.iconst (-1), 1) := by decide +kernel
theorem dX0_emptyBucket_46 : decode cX0_emptyBucket 46 = .ok (.if_icmp .eq 53, 3) := by decide +kernel
theorem dX0_emptyBucket_49 : decode cX0_emptyBucket 49 = .ok (.aload_n 0, 1) := by decide +kernel
theorem dX0_emptyBucket_50 : decode cX0_emptyBucket 50 = .ok (.aload_n 0, 1) := by decide +kernel
theorem dX0_emptyBucket_51 : decode cX0_emptyBucket 51 = .ok (.iload 4, 2) := by decide +kernel
theorem dX0_emptyBucket_53 : decode cX0_emptyBucket 53 = .ok (.iload 5, 2) := by decide +kernel
theorem dX0_emptyBucket_55 : decode cX0_emptyBucket 55 = .ok (.iconst 1, 1) := by decide +kernel
theorem dX0_emptyBucket_56 : decode cX0_emptyBucket 56 = .ok (.invokevirtual 77, 3) := by decide +kernel
theorem dX0_emptyBucket_59 : decode cX0_emptyBucket 59 = .ok (.iload_n 1, 1) := by decide +kernel
theorem dX0_emptyBucket_60 : decode cX0_emptyBucket 60 = .ok (.aload_n 0, 1) := by decide +kernel
theorem dX0_emptyBucket_61 : decode cX0_emptyBucket 61 = .ok (.getfield 11, 3) := by decide +kernel
theorem dX0_emptyBucket_64 : decode cX0_emptyBucket 64 = .ok (.iload 5, 2) := by decide +kernel
theorem dX0_emptyBucket_66 : decode cX0_emptyBucket 66 = .ok (.iaload, 1) := by decide +kernel
theorem dX0_emptyBucket_67 : decode cX0_emptyBucket 67 = .ok (.iadd, 1) := by decide +kernel
theorem dX0_emptyBucket_68 : decode cX0_emptyBucket 68 = .ok (.invokevirtual 119, 3) := by decide +kernel
theorem dX0_emptyBucket_71 : decode cX0_emptyBucket 71 = .ok (.aload_n 0, 1) := by decide +kernel
theorem dX0_emptyBucket_72 : decode cX0_emptyBucket 72 = .ok (.aload_n 0, 1) := by decide +kernel
theorem dX0_emptyBucket_73 : decode cX0_emptyBucket 73 = .ok (.iload 4, 2) := by decide +kernel
theorem dX0_emptyBucket_75 : decode cX0_emptyBucket 75 = .ok (.iload 5, 2) := by decide +kernel
theorem dX0_emptyBucket_77 : decode cX0_emptyBucket 77 = .ok (.iconst (-1), 1) := by decide +kernel
theorem dX0_emptyBucket_78 : decode cX0_emptyBucket 78 = .ok (.invokevirtual 77, 3) := by decide +kernel
theorem dX0_emptyBucket_81 : decode cX0_emptyBucket 81 = .ok (.iload_n 1, 1) := by decide +kernel
theorem dX0_emptyBucket_82 : decode cX0_emptyBucket 82 = .ok (.aload_n 0, 1) := by decide +kernel
theorem dX0_emptyBucket_83 : decode cX0_emptyBucket 83 = .ok (.getfield 11, 3) := by decide +kernel
theorem dX0_emptyBucket_86 : decode cX0_emptyBucket 86 = .ok (.iload 5, 2) := by decide +kernel
theorem dX0_emptyBucket_88 : decode cX0_emptyBucket 88 = .ok (.iaload, 1) := by decide +kernel
theorem dX0_emptyBucket_89 : decode cX0_emptyBucket 89 = .ok (.iadd, 1) := by decide +kernel
theorem dX0_emptyBucket_90 : decode cX0_emptyBucket 90 = .ok (.invokevirtual 119, 3) := by decide +kernel
theorem dX0_emptyBucket_93 : decode cX0_emptyBucket 93 = .ok (.iinc 5 1, 3) := by decide +kernel
theorem dX0_emptyBucket_96 : decode cX0_emptyBucket 96 = .ok (.goto (-69), 3) := by decide +kernel
theorem dX0_emptyBucket_99 : decode cX0_emptyBucket 99 = .ok (.iinc 3 1, 3) := by decide +kernel
theorem dX0_emptyBucket_102 : decode cX0_emptyBucket 102 = .ok (.goto (-91), 3) := by decide +kernel
theorem dX0_emptyBucket_105 : decode cX0_emptyBucket 105 = .ok (.aload_n 0, 1) := by decide +kernel
theorem dX0_emptyBucket_106 : decode cX0_emptyBucket 106 = .ok (.getfield 27, 3) := by decide +kernel
theorem dX0_emptyBucket_109 : decode cX0_emptyBucket 109 = .ok (.iload_n 1, 1) := by decide +kernel
theorem dX0_emptyBucket_110 : decode cX0_emptyBucket 110 = .ok (.iconst 3, 1) := by decide +kernel
theorem dX0_emptyBucket_111 : decode cX0_emptyBucket 111 = .ok (.iand, 1) := by decide +kernel
theorem dX0_emptyBucket_112 : decode cX0_emptyBucket 112 = .ok (.iconst 0, 1) := by decide +kernel
theorem dX0_emptyBucket_113 : decode cX0_emptyBucket 113 = .ok (.iastore, 1) := by decide +kernel
theorem dX0_emptyBucket_114 : decode cX0_emptyBucket 114 = .ok (.return_, 1) := by decide +kernel
theorem dX0_cheapen_0 : decode cX0_cheapen 0 = .ok (.iload_n 2, 1) := by decide +kernel
theorem dX0_cheapen_1 : decode cX0_cheapen 1 = .ok (.iconst 3, 1) := by decide +kernel
theorem dX0_cheapen_2 : decode cX0_cheapen 2 = .ok (.iand, 1) := by decide +kernel
theorem dX0_cheapen_3 : decode cX0_cheapen 3 = .ok (.istore_n 3, 1) := by decide +kernel
theorem dX0_cheapen_4 : decode cX0_cheapen 4 = .ok (.aload_n 0, 1) := by decide +kernel
theorem dX0_cheapen_5 : decode cX0_cheapen 5 = .ok (.iload_n 1, 1) := by decide +kernel
theorem dX0_cheapen_6 : decode cX0_cheapen 6 = .ok (.iload_n 2, 1) := by decide +kernel
theorem dX0_cheapen_7 : decode cX0_cheapen 7 = .ok (.invokevirtual 135, 3) := by decide +kernel
theorem dX0_cheapen_10 : decode cX0_cheapen 10 = .ok (.ifCond .eq 50, 3) := by decide +kernel
theorem dX0_cheapen_13 : decode cX0_cheapen 13 = .ok (.aload_n 0, 1) := by decide +kernel
theorem dX0_cheapen_14 : decode cX0_cheapen 14 = .ok (.getfield 27, 3) := by decide +kernel
theorem dX0_cheapen_17 : decode cX0_cheapen 17 = .ok (.iload_n 3, 1) := by decide +kernel
theorem dX0_cheapen_18 : decode cX0_cheapen 18 = .ok (.iaload, 1) := by decide +kernel
theorem dX0_cheapen_19 : decode cX0_cheapen 19 = .ok (.sipush 4096, 3) := by decide +kernel
theorem dX0_cheapen_22 : decode cX0_cheapen 22 = .ok (.if_icmp .ge 38, 3) := by decide +kernel
theorem dX0_cheapen_25 : decode cX0_cheapen 25 = .ok (.aload_n 0, 1) := by decide +kernel
theorem dX0_cheapen_26 : decode cX0_cheapen 26 = .ok (.getfield 18, 3) := by decide +kernel
theorem dX0_cheapen_29 : decode cX0_cheapen 29 = .ok (.iload_n 1, 1) := by decide +kernel
theorem dX0_cheapen_30 : decode cX0_cheapen 30 = .ok (.iload_n 2, 1) := by decide +kernel
theorem dX0_cheapen_31 : decode cX0_cheapen 31 = .ok (.iastore, 1) := by decide +kernel
theorem dX0_cheapen_32 : decode cX0_cheapen 32 = .ok (.aload_n 0, 1) := by decide +kernel
theorem dX0_cheapen_33 : decode cX0_cheapen 33 = .ok (.getfield 24, 3) := by decide +kernel
theorem dX0_cheapen_36 : decode cX0_cheapen 36 = .ok (.iload_n 3, 1) := by decide +kernel
theorem dX0_cheapen_37 : decode cX0_cheapen 37 = .ok (.sipush 4096, 3) := by decide +kernel
theorem dX0_cheapen_40 : decode cX0_cheapen 40 = .ok (.imul, 1) := by decide +kernel
theorem dX0_cheapen_41 : decode cX0_cheapen 41 = .ok (.aload_n 0, 1) := by decide +kernel
theorem dX0_cheapen_42 : decode cX0_cheapen 42 = .ok (.getfield 27, 3) := by decide +kernel
theorem dX0_cheapen_45 : decode cX0_cheapen 45 = .ok (.iload_n 3, 1) := by decide +kernel
theorem dX0_cheapen_46 : decode cX0_cheapen 46 = .ok (.iaload, 1) := by decide +kernel
theorem dX0_cheapen_47 : decode cX0_cheapen 47 = .ok (.iadd, 1) := by decide +kernel
theorem dX0_cheapen_48 : decode cX0_cheapen 48 = .ok (.iload_n 1, 1) := by decide +kernel
theorem dX0_cheapen_49 : decode cX0_cheapen 49 = .ok (.iastore, 1) := by decide +kernel
theorem dX0_cheapen_50 : decode cX0_cheapen 50 = .ok (.aload_n 0, 1) := by decide +kernel
theorem dX0_cheapen_51 : decode cX0_cheapen 51 = .ok (.getfield 27, 3) := by decide +kernel
theorem dX0_cheapen_54 : decode cX0_cheapen 54 = .ok (.iload_n 3, 1) := by decide +kernel
theorem dX0_cheapen_55 : decode cX0_cheapen 55 = .ok (.dup2, 1) := by decide +kernel
theorem dX0_cheapen_56 : decode cX0_cheapen 56 = .ok (.iaload, 1) := by decide +kernel
theorem dX0_cheapen_57 : decode cX0_cheapen 57 = .ok (.iconst 1, 1) := by decide +kernel
theorem dX0_cheapen_58 : decode cX0_cheapen 58 = .ok (.iadd, 1) := by decide +kernel
theorem dX0_cheapen_59 : decode cX0_cheapen 59 = .ok (.iastore, 1) := by decide +kernel
theorem dX0_cheapen_60 : decode cX0_cheapen 60 = .ok (.return_, 1) := by decide +kernel
theorem dX0_isCheaper_0 : decode cX0_isCheaper 0 = .ok (.aload_n 0, 1) := by decide +kernel
theorem dX0_isCheaper_1 : decode cX0_isCheaper 1 = .ok (.iload_n 1, 1) := by decide +kernel
theorem dX0_isCheaper_2 : decode cX0_isCheaper 2 = .ok (.invokevirtual 69, 3) := by decide +kernel
theorem dX0_isCheaper_5 : decode cX0_isCheaper 5 = .ok (.ifCond .eq 27, 3) := by decide +kernel
theorem dX0_isCheaper_8 : decode cX0_isCheaper 8 = .ok (.aload_n 0, 1) := by decide +kernel
theorem dX0_isCheaper_9 : decode cX0_isCheaper 9 = .ok (.getfield 18, 3) := by decide +kernel
theorem dX0_isCheaper_12 : decode cX0_isCheaper 12 = .ok (.iload_n 1, 1) := by decide +kernel
theorem dX0_isCheaper_13 : decode cX0_isCheaper 13 = .ok (.iaload, 1) := by decide +kernel
theorem dX0_isCheaper_14 : decode cX0_isCheaper 14 = .ok (.iconst (-1), 1) := by decide +kernel
theorem dX0_isCheaper_15 : decode cX0_isCheaper 15 = .ok (.if_icmp .eq 13, 3) := by decide +kernel
theorem dX0_isCheaper_18 : decode cX0_isCheaper 18 = .ok (.iload_n 2, 1) := by decide +kernel
theorem dX0_isCheaper_19 : decode cX0_isCheaper 19 = .ok (.aload_n 0, 1) := by decide +kernel
theorem dX0_isCheaper_20 : decode cX0_isCheaper 20 = .ok (.getfield 18, 3) := by decide +kernel
theorem dX0_isCheaper_23 : decode cX0_isCheaper 23 = .ok (.iload_n 1, 1) := by decide +kernel
theorem dX0_isCheaper_24 : decode cX0_isCheaper 24 = .ok (.iaload, 1) := by decide +kernel
theorem dX0_isCheaper_25 : decode cX0_isCheaper 25 = .ok (.if_icmp .ge 7, 3) := by decide +kernel
theorem dX0_isCheaper_28 : decode cX0_isCheaper 28 = .ok (.iconst 1, 1) := by decide +kernel
theorem dX0_isCheaper_29 : decode cX0_isCheaper 29 = .ok (.goto 4, 3) := by decide +kernel
theorem dX0_isCheaper_32 : decode cX0_isCheaper 32 = .ok (.iconst 0, 1) := by decide +kernel
theorem dX0_isCheaper_33 : decode cX0_isCheaper 33 = .ok (.ireturn, 1) := by decide +kernel
theorem dX0_fuelByRounds_0 : decode cX0_fuelByRounds 0 = .ok (.aload_n 0, 1) := by decide +kernel
theorem dX0_fuelByRounds_1 : decode cX0_fuelByRounds 1 = .ok (.invokevirtual 93, 3) := by decide +kernel
theorem dX0_fuelByRounds_4 : decode cX0_fuelByRounds 4 = .ok (.aload_n 0, 1) := by decide +kernel
theorem dX0_fuelByRounds_5 : decode cX0_fuelByRounds 5 = .ok (.aload_n 0, 1) := by decide +kernel
theorem dX0_fuelByRounds_6 : decode cX0_fuelByRounds 6 = .ok (.getfield 46, 3) := by decide +kernel
theorem dX0_fuelByRounds_9 : decode cX0_fuelByRounds 9 = .ok (.iconst 0, 1) := by decide +kernel
theorem dX0_fuelByRounds_10 : decode cX0_fuelByRounds 10 = .ok (.invokevirtual 90, 3) := by decide +kernel
theorem dX0_fuelByRounds_13 : decode cX0_fuelByRounds 13 = .ok (.iconst 1, 1) := by decide +kernel
theorem dX0_fuelByRounds_14 : decode cX0_fuelByRounds 14 = .ok (.istore_n 1, 1) := by decide +kernel
theorem dX0_fuelByRounds_15 : decode cX0_fuelByRounds 15 = .ok (.iconst 0, 1) := by decide +kernel
theorem dX0_fuelByRounds_16 : decode cX0_fuelByRounds 16 = .ok (.istore_n 2, 1) := by decide +kernel
theorem dX0_fuelByRounds_17 : decode cX0_fuelByRounds 17 = .ok (.iload_n 2, 1) := by decide +kernel
theorem dX0_fuelByRounds_18 : decode cX0_fuelByRounds 18 = .ok (.sipush 4096, 3) := by decide +kernel
theorem dX0_fuelByRounds_21 : decode cX0_fuelByRounds 21 = .ok (.if_icmp .gt 50, 3) := by decide +kernel
theorem dX0_fuelByRounds_24 : decode cX0_fuelByRounds 24 = .ok (.iload_n 1, 1) := by decide +kernel
theorem dX0_fuelByRounds_25 : decode cX0_fuelByRounds 25 = .ok (.ifCond .eq 46, 3) := by decide +kernel
theorem dX0_fuelByRounds_28 : decode cX0_fuelByRounds 28 = .ok (.iconst 0, 1) := by decide +kernel
theorem dX0_fuelByRounds_29 : decode cX0_fuelByRounds 29 = .ok (.istore_n 1, 1) := by decide +kernel
theorem dX0_fuelByRounds_30 : decode cX0_fuelByRounds 30 = .ok (.iconst 0, 1) := by decide +kernel
theorem dX0_fuelByRounds_31 : decode cX0_fuelByRounds 31 = .ok (.istore_n 3, 1) := by decide +kernel
theorem dX0_fuelByRounds_32 : decode cX0_fuelByRounds 32 = .ok (.iload_n 3, 1) := by decide +kernel
theorem dX0_fuelByRounds_33 : decode cX0_fuelByRounds 33 = .ok (.aload_n 0, 1) := by decide +kernel
theorem dX0_fuelByRounds_34 : decode cX0_fuelByRounds 34 = .ok (.getfield 43, 3) := by decide +kernel
theorem dX0_fuelByRounds_37 : decode cX0_fuelByRounds 37 = .ok (.if_icmp .ge 28, 3) := by decide +kernel
theorem dX0_fuelByRounds_40 : decode cX0_fuelByRounds 40 = .ok (.aload_n 0, 1) := by decide +kernel
theorem dX0_fuelByRounds_41 : decode cX0_fuelByRounds 41 = .ok (.iload_n 3, 1) := by decide +kernel
theorem dX0_fuelByRounds_42 : decode cX0_fuelByRounds 42 = .ok (.invokevirtual 83, 3) := by decide +kernel
theorem dX0_fuelByRounds_45 : decode cX0_fuelByRounds 45 = .ok (.iconst (-1), 1) := by decide +kernel
theorem dX0_fuelByRounds_46 : decode cX0_fuelByRounds 46 = .ok (.if_icmp .eq 13, 3) := by decide +kernel
theorem dX0_fuelByRounds_49 : decode cX0_fuelByRounds 49 = .ok (.aload_n 0, 1) := by decide +kernel
theorem dX0_fuelByRounds_50 : decode cX0_fuelByRounds 50 = .ok (.iload_n 3, 1) := by decide +kernel
theorem dX0_fuelByRounds_51 : decode cX0_fuelByRounds 51 = .ok (.invokevirtual 139, 3) := by decide +kernel
theorem dX0_fuelByRounds_54 : decode cX0_fuelByRounds 54 = .ok (.ifCond .eq 5, 3) := by decide +kernel
theorem dX0_fuelByRounds_57 : decode cX0_fuelByRounds 57 = .ok (.iconst 1, 1) := by decide +kernel
theorem dX0_fuelByRounds_58 : decode cX0_fuelByRounds 58 = .ok (.istore_n 1, 1) := by decide +kernel
theorem dX0_fuelByRounds_59 : decode cX0_fuelByRounds 59 = .ok (.iinc 3 1, 3) := by decide +kernel
theorem dX0_fuelByRounds_62 : decode cX0_fuelByRounds 62 = .ok (.goto (-30), 3) := by decide +kernel
theorem dX0_fuelByRounds_65 : decode cX0_fuelByRounds 65 = .ok (.iinc 2 1, 3) := by decide +kernel
theorem dX0_fuelByRounds_68 : decode cX0_fuelByRounds 68 = .ok (.goto (-51), 3) := by decide +kernel
theorem dX0_fuelByRounds_71 : decode cX0_fuelByRounds 71 = .ok (.aload_n 0, 1) := by decide +kernel
theorem dX0_fuelByRounds_72 : decode cX0_fuelByRounds 72 = .ok (.invokevirtual 103, 3) := by decide +kernel
theorem dX0_fuelByRounds_75 : decode cX0_fuelByRounds 75 = .ok (.ireturn, 1) := by decide +kernel
theorem dX0_hasCheapenedAround_0 : decode cX0_hasCheapenedAround 0 = .ok (.iconst 0, 1) := by decide +kernel
theorem dX0_hasCheapenedAround_1 : decode cX0_hasCheapenedAround 1 = .ok (.istore_n 2, 1) := by decide +kernel
theorem dX0_hasCheapenedAround_2 : decode cX0_hasCheapenedAround 2 = .ok (.iconst 0, 1) := by decide +kernel
theorem dX0_hasCheapenedAround_3 : decode cX0_hasCheapenedAround 3 = .ok (.istore_n 3, 1) := by decide +kernel
theorem dX0_hasCheapenedAround_4 : decode cX0_hasCheapenedAround 4 = .ok (.iload_n 3, 1) := by decide +kernel
theorem dX0_hasCheapenedAround_5 : decode cX0_hasCheapenedAround 5 = .ok (.aload_n 0, 1) := by decide +kernel
theorem dX0_hasCheapenedAround_6 : decode cX0_hasCheapenedAround 6 = .ok (.getfield 39, 3) := by decide +kernel
theorem dX0_hasCheapenedAround_9 : decode cX0_hasCheapenedAround 9 = .ok (.if_icmp .ge 76, 3) := by decide +kernel
theorem dX0_hasCheapenedAround_12 : decode cX0_hasCheapenedAround 12 = .ok (.iload_n 3, 1) := by decide +kernel
theorem dX0_hasCheapenedAround_13 : decode cX0_hasCheapenedAround 13 = .ok (.bipush 6, 2) := by decide +kernel
theorem dX0_hasCheapenedAround_15 : decode cX0_hasCheapenedAround 15 = .ok (.if_icmp .ge 70, 3) := by decide +kernel
theorem dX0_hasCheapenedAround_18 : decode cX0_hasCheapenedAround 18 = .ok (.aload_n 0, 1) := by decide +kernel
theorem dX0_hasCheapenedAround_19 : decode cX0_hasCheapenedAround 19 = .ok (.iload_n 1, 1) := by decide +kernel
theorem dX0_hasCheapenedAround_20 : decode cX0_hasCheapenedAround 20 = .ok (.invokevirtual 83, 3) := by decide +kernel
theorem dX0_hasCheapenedAround_23 : decode cX0_hasCheapenedAround 23 = .ok (.aload_n 0, 1) := by decide +kernel
theorem dX0_hasCheapenedAround_24 : decode cX0_hasCheapenedAround 24 = .ok (.getfield 11, 3) := by decide +kernel
theorem dX0_hasCheapenedAround_27 : decode cX0_hasCheapenedAround 27 = .ok (.iload_n 3, 1) := by decide +kernel
theorem dX0_hasCheapenedAround_28 : decode cX0_hasCheapenedAround 28 = .ok (.iaload, 1) := by decide +kernel
theorem dX0_hasCheapenedAround_29 : decode cX0_hasCheapenedAround 29 = .ok (.iadd, 1) := by decide +kernel
theorem dX0_hasCheapenedAround_30 : decode cX0_hasCheapenedAround 30 = .ok (.istore 4, 2) := by decide +kernel
theorem dX0_hasCheapenedAround_32 : decode cX0_hasCheapenedAround 32 = .ok (.iconst (-1), 1) := by decide +kernel
theorem dX0_hasCheapenedAround_33 : decode cX0_hasCheapenedAround 33 = .ok (.istore 5, 2) := by decide +kernel
theorem dX0_hasCheapenedAround_35 : decode cX0_hasCheapenedAround 35 = .ok (.iload 5, 2) := by decide +kernel
theorem dX0_hasCheapenedAround_37 : decode cX0_hasCheapenedAround 37 = .ok (.iconst 1, 1) := by decide +kernel
theorem dX0_hasCheapenedAround_38 : decode cX0_hasCheapenedAround 38 = .ok (.if_icmp .gt 41, 3) := by decide +kernel
theorem dX0_hasCheapenedAround_41 : decode cX0_hasCheapenedAround 41 = .ok (.aload_n 0, 1) := by decide +kernel
theorem dX0_hasCheapenedAround_42 : decode cX0_hasCheapenedAround 42 = .ok (.iload_n 1, 1) := by decide +kernel
theorem dX0_hasCheapenedAround_43 : decode cX0_hasCheapenedAround 43 = .ok (.iload_n 3, 1) := by decide +kernel
theorem dX0_hasCheapenedAround_44 : decode cX0_hasCheapenedAround 44 = .ok (.iload 5, 2) := by decide +kernel
theorem dX0_hasCheapenedAround_46 : decode cX0_hasCheapenedAround 46 = .ok (.invokevirtual 77, 3) := by decide +kernel
theorem dX0_hasCheapenedAround_49 : decode cX0_hasCheapenedAround 49 = .ok (.istore 6, 2) := by decide +kernel
theorem dX0_hasCheapenedAround_51 : decode cX0_hasCheapenedAround 51 = .ok (.aload_n 0, 1) := by decide +kernel
theorem dX0_hasCheapenedAround_52 : decode cX0_hasCheapenedAround 52 = .ok (.iload 6, 2) := by decide +kernel
theorem dX0_hasCheapenedAround_54 : decode cX0_hasCheapenedAround 54 = .ok (.iload 4, 2) := by decide +kernel
theorem dX0_hasCheapenedAround_56 : decode cX0_hasCheapenedAround 56 = .ok (.invokevirtual 135, 3) := by decide +kernel
theorem dX0_hasCheapenedAround_59 : decode cX0_hasCheapenedAround 59 = .ok (.ifCond .eq 14, 3) := by decide +kernel
theorem dX0_hasCheapenedAround_62 : decode cX0_hasCheapenedAround 62 = .ok (.aload_n 0, 1) := by decide +kernel
theorem dX0_hasCheapenedAround_63 : decode cX0_hasCheapenedAround 63 = .ok (.getfield 18, 3) := by decide +kernel
theorem dX0_hasCheapenedAround_66 : decode cX0_hasCheapenedAround 66 = .ok (.iload 6, 2) := by decide +kernel
theorem dX0_hasCheapenedAround_68 : decode cX0_hasCheapenedAround 68 = .ok (.iload 4, 2) := by decide +kernel
theorem dX0_hasCheapenedAround_70 : decode cX0_hasCheapenedAround 70 = .ok (.iastore, 1) := by decide +kernel
theorem dX0_hasCheapenedAround_71 : decode cX0_hasCheapenedAround 71 = .ok (.iconst 1, 1) := by decide +kernel
theorem dX0_hasCheapenedAround_72 : decode cX0_hasCheapenedAround 72 = .ok (.istore_n 2, 1) := by decide +kernel
theorem dX0_hasCheapenedAround_73 : decode cX0_hasCheapenedAround 73 = .ok (.iinc 5 2, 3) := by decide +kernel
theorem dX0_hasCheapenedAround_76 : decode cX0_hasCheapenedAround 76 = .ok (.goto (-41), 3) := by decide +kernel
theorem dX0_hasCheapenedAround_79 : decode cX0_hasCheapenedAround 79 = .ok (.iinc 3 1, 3) := by decide +kernel
theorem dX0_hasCheapenedAround_82 : decode cX0_hasCheapenedAround 82 = .ok (.goto (-78), 3) := by decide +kernel
theorem dX0_hasCheapenedAround_85 : decode cX0_hasCheapenedAround 85 = .ok (.iload_n 2, 1) := by decide +kernel
theorem dX0_hasCheapenedAround_86 : decode cX0_hasCheapenedAround 86 = .ok (.ireturn, 1) := by decide +kernel
theorem dX1_init_0 : decode cX1_init 0 = .ok (.aload_n 0, 1) := by decide +kernel
theorem dX1_init_1 : decode cX1_init 1 = .ok (.invokespecial 3, 3) := by decide +kernel
theorem dX1_init_4 : decode cX1_init 4 = .ok (.aload_n 0, 1) := by decide +kernel
theorem dX1_init_5 : decode cX1_init 5 = .ok (.bipush 6, 2) := by decide +kernel
theorem dX1_init_7 : decode cX1_init 7 = .ok (.newarray .int, 2) := by decide +kernel
theorem dX1_init_9 : decode cX1_init 9 = .ok (.putfield 9, 3) := by decide +kernel
theorem dX1_init_12 : decode cX1_init 12 = .ok (.aload_n 0, 1) := by decide +kernel
theorem dX1_init_13 : decode cX1_init 13 = .ok (.bipush 6, 2) := by decide +kernel
theorem dX1_init_15 : decode cX1_init 15 = .ok (.newarray .int, 2) := by decide +kernel
theorem dX1_init_17 : decode cX1_init 17 = .ok (.putfield 15, 3) := by decide +kernel
theorem dX1_init_20 : decode cX1_init 20 = .ok (.aload_n 0, 1) := by decide +kernel
theorem dX1_init_21 : decode cX1_init 21 = .ok (.bipush 6, 2) := by decide +kernel
theorem dX1_init_23 : decode cX1_init 23 = .ok (.newarray .int, 2) := by decide +kernel
theorem dX1_init_25 : decode cX1_init 25 = .ok (.putfield 18, 3) := by decide +kernel
theorem dX1_init_28 : decode cX1_init 28 = .ok (.aload_n 0, 1) := by decide +kernel
theorem dX1_init_29 : decode cX1_init 29 = .ok (.bipush 60, 2) := by decide +kernel
theorem dX1_init_31 : decode cX1_init 31 = .ok (.newarray .int, 2) := by decide +kernel
theorem dX1_init_33 : decode cX1_init 33 = .ok (.putfield 21, 3) := by decide +kernel
theorem dX1_init_36 : decode cX1_init 36 = .ok (.aload_n 0, 1) := by decide +kernel
theorem dX1_init_37 : decode cX1_init 37 = .ok (.bipush 60, 2) := by decide +kernel
theorem dX1_init_39 : decode cX1_init 39 = .ok (.newarray .int, 2) := by decide +kernel
theorem dX1_init_41 : decode cX1_init 41 = .ok (.putfield 24, 3) := by decide +kernel
theorem dX1_init_44 : decode cX1_init 44 = .ok (.return_, 1) := by decide +kernel
theorem dX1_become_0 : decode cX1_become 0 = .ok (.aload_n 1, 1) := by decide +kernel
theorem dX1_become_1 : decode cX1_become 1 = .ok (.getfield 9, 3) := by decide +kernel
theorem dX1_become_4 : decode cX1_become 4 = .ok (.iconst 0, 1) := by decide +kernel
theorem dX1_become_5 : decode cX1_become 5 = .ok (.aload_n 0, 1) := by decide +kernel
theorem dX1_become_6 : decode cX1_become 6 = .ok (.getfield 9, 3) := by decide +kernel
theorem dX1_become_9 : decode cX1_become 9 = .ok (.iconst 0, 1) := by decide +kernel
theorem dX1_become_10 : decode cX1_become 10 = .ok (.bipush 6, 2) := by decide +kernel
theorem dX1_become_12 : decode cX1_become 12 = .ok (.invokestatic 27, 3) := by decide +kernel
theorem dX1_become_15 : decode cX1_become 15 = .ok (.aload_n 1, 1) := by decide +kernel
theorem dX1_become_16 : decode cX1_become 16 = .ok (.getfield 15, 3) := by decide +kernel
theorem dX1_become_19 : decode cX1_become 19 = .ok (.iconst 0, 1) := by decide +kernel
theorem dX1_become_20 : decode cX1_become 20 = .ok (.aload_n 0, 1) := by decide +kernel
theorem dX1_become_21 : decode cX1_become 21 = .ok (.getfield 15, 3) := by decide +kernel
theorem dX1_become_24 : decode cX1_become 24 = .ok (.iconst 0, 1) := by decide +kernel
theorem dX1_become_25 : decode cX1_become 25 = .ok (.bipush 6, 2) := by decide +kernel
theorem dX1_become_27 : decode cX1_become 27 = .ok (.invokestatic 27, 3) := by decide +kernel
theorem dX1_become_30 : decode cX1_become 30 = .ok (.aload_n 1, 1) := by decide +kernel
theorem dX1_become_31 : decode cX1_become 31 = .ok (.getfield 18, 3) := by decide +kernel
theorem dX1_become_34 : decode cX1_become 34 = .ok (.iconst 0, 1) := by decide +kernel
theorem dX1_become_35 : decode cX1_become 35 = .ok (.aload_n 0, 1) := by decide +kernel
theorem dX1_become_36 : decode cX1_become 36 = .ok (.getfield 18, 3) := by decide +kernel
theorem dX1_become_39 : decode cX1_become 39 = .ok (.iconst 0, 1) := by decide +kernel
theorem dX1_become_40 : decode cX1_become 40 = .ok (.bipush 6, 2) := by decide +kernel
theorem dX1_become_42 : decode cX1_become 42 = .ok (.invokestatic 27, 3) := by decide +kernel
theorem dX1_become_45 : decode cX1_become 45 = .ok (.aload_n 1, 1) := by decide +kernel
theorem dX1_become_46 : decode cX1_become 46 = .ok (.getfield 21, 3) := by decide +kernel
theorem dX1_become_49 : decode cX1_become 49 = .ok (.iconst 0, 1) := by decide +kernel
theorem dX1_become_50 : decode cX1_become 50 = .ok (.aload_n 0, 1) := by decide +kernel
theorem dX1_become_51 : decode cX1_become 51 = .ok (.getfield 21, 3) := by decide +kernel
theorem dX1_become_54 : decode cX1_become 54 = .ok (.iconst 0, 1) := by decide +kernel
theorem dX1_become_55 : decode cX1_become 55 = .ok (.bipush 60, 2) := by decide +kernel
theorem dX1_become_57 : decode cX1_become 57 = .ok (.invokestatic 27, 3) := by decide +kernel
theorem dX1_become_60 : decode cX1_become 60 = .ok (.aload_n 1, 1) := by decide +kernel
theorem dX1_become_61 : decode cX1_become 61 = .ok (.getfield 24, 3) := by decide +kernel
theorem dX1_become_64 : decode cX1_become 64 = .ok (.iconst 0, 1) := by decide +kernel
theorem dX1_become_65 : decode cX1_become 65 = .ok (.aload_n 0, 1) := by decide +kernel
theorem dX1_become_66 : decode cX1_become 66 = .ok (.getfield 24, 3) := by decide +kernel
theorem dX1_become_69 : decode cX1_become 69 = .ok (.iconst 0, 1) := by decide +kernel
theorem dX1_become_70 : decode cX1_become 70 = .ok (.bipush 60, 2) := by decide +kernel
theorem dX1_become_72 : decode cX1_become 72 = .ok (.invokestatic 27, 3) := by decide +kernel
theorem dX1_become_75 : decode cX1_become 75 = .ok (.aload_n 0, 1) := by decide +kernel
theorem dX1_become_76 : decode cX1_become 76 = .ok (.aload_n 1, 1) := by decide +kernel
theorem dX1_become_77 : decode cX1_become 77 = .ok (.getfield 33, 3) := by decide +kernel
theorem dX1_become_80 : decode cX1_become 80 = .ok (.putfield 33, 3) := by decide +kernel
theorem dX1_become_83 : decode cX1_become 83 = .ok (.aload_n 0, 1) := by decide +kernel
theorem dX1_become_84 : decode cX1_become 84 = .ok (.aload_n 1, 1) := by decide +kernel
theorem dX1_become_85 : decode cX1_become 85 = .ok (.getfield 37, 3) := by decide +kernel
theorem dX1_become_88 : decode cX1_become 88 = .ok (.putfield 37, 3) := by decide +kernel
theorem dX1_become_91 : decode cX1_become 91 = .ok (.aload_n 0, 1) := by decide +kernel
theorem dX1_become_92 : decode cX1_become 92 = .ok (.aload_n 1, 1) := by decide +kernel
theorem dX1_become_93 : decode cX1_become 93 = .ok (.getfield 40, 3) := by decide +kernel
theorem dX1_become_96 : decode cX1_become 96 = .ok (.putfield 40, 3) := by decide +kernel
theorem dX1_become_99 : decode cX1_become 99 = .ok (.aload_n 0, 1) := by decide +kernel
theorem dX1_become_100 : decode cX1_become 100 = .ok (.aload_n 1, 1) := by decide +kernel
theorem dX1_become_101 : decode cX1_become 101 = .ok (.getfield 43, 3) := by decide +kernel
theorem dX1_become_104 : decode cX1_become 104 = .ok (.putfield 43, 3) := by decide +kernel
theorem dX1_become_107 : decode cX1_become 107 = .ok (.aload_n 0, 1) := by decide +kernel
theorem dX1_become_108 : decode cX1_become 108 = .ok (.aload_n 1, 1) := by decide +kernel
theorem dX1_become_109 : decode cX1_become 109 = .ok (.getfield 47, 3) := by decide +kernel
theorem dX1_become_112 : decode cX1_become 112 = .ok (.putfield 47, 3) := by decide +kernel
theorem dX1_become_115 : decode cX1_become 115 = .ok (.return_, 1) := by decide +kernel
theorem dX1_hasCar_0 : decode cX1_hasCar 0 = .ok (.iload_n 1, 1) := by decide +kernel
theorem dX1_hasCar_1 : decode cX1_hasCar 1 = .ok (.ifCond .lt 21, 3) := by decide +kernel
theorem dX1_hasCar_4 : decode cX1_hasCar 4 = .ok (.iload_n 1, 1) := by decide +kernel
theorem dX1_hasCar_5 : decode cX1_hasCar 5 = .ok (.aload_n 0, 1) := by decide +kernel
theorem dX1_hasCar_6 : decode cX1_hasCar 6 = .ok (.getfield 33, 3) := by decide +kernel
theorem dX1_hasCar_9 : decode cX1_hasCar 9 = .ok (.if_icmp .ge 13, 3) := by decide +kernel
theorem dX1_hasCar_12 : decode cX1_hasCar 12 = .ok (.iload_n 1, 1) := by decide +kernel
theorem dX1_hasCar_13 : decode cX1_hasCar 13 = .ok (.bipush 6, 2) := by decide +kernel
theorem dX1_hasCar_15 : decode cX1_hasCar 15 = .ok (.if_icmp .ge 7, 3) := by decide +kernel
theorem dX1_hasCar_18 : decode cX1_hasCar 18 = .ok (.iconst 1, 1) := by decide +kernel
theorem dX1_hasCar_19 : decode cX1_hasCar 19 = .ok (.goto 4, 3) := by decide +kernel
theorem dX1_hasCar_22 : decode cX1_hasCar 22 = .ok (.iconst 0, 1) := by decide +kernel
theorem dX1_hasCar_23 : decode cX1_hasCar 23 = .ok (.ireturn, 1) := by decide +kernel
theorem dX1_hasSlide_0 : decode cX1_hasSlide 0 = .ok (.iload_n 1, 1) := by decide +kernel
theorem dX1_hasSlide_1 : decode cX1_hasSlide 1 = .ok (.ifCond .lt 21, 3) := by decide +kernel
theorem dX1_hasSlide_4 : decode cX1_hasSlide 4 = .ok (.iload_n 1, 1) := by decide +kernel
theorem dX1_hasSlide_5 : decode cX1_hasSlide 5 = .ok (.aload_n 0, 1) := by decide +kernel
theorem dX1_hasSlide_6 : decode cX1_hasSlide 6 = .ok (.getfield 40, 3) := by decide +kernel
theorem dX1_hasSlide_9 : decode cX1_hasSlide 9 = .ok (.if_icmp .ge 13, 3) := by decide +kernel
theorem dX1_hasSlide_12 : decode cX1_hasSlide 12 = .ok (.iload_n 1, 1) := by decide +kernel
theorem dX1_hasSlide_13 : decode cX1_hasSlide 13 = .ok (.bipush 60, 2) := by decide +kernel
theorem dX1_hasSlide_15 : decode cX1_hasSlide 15 = .ok (.if_icmp .ge 7, 3) := by decide +kernel
theorem dX1_hasSlide_18 : decode cX1_hasSlide 18 = .ok (.iconst 1, 1) := by decide +kernel
theorem dX1_hasSlide_19 : decode cX1_hasSlide 19 = .ok (.goto 4, 3) := by decide +kernel
theorem dX1_hasSlide_22 : decode cX1_hasSlide 22 = .ok (.iconst 0, 1) := by decide +kernel
theorem dX1_hasSlide_23 : decode cX1_hasSlide 23 = .ok (.ireturn, 1) := by decide +kernel
theorem dX1_hasWallAt_0 : decode cX1_hasWallAt 0 = .ok (.aload_n 0, 1) := by decide +kernel
theorem dX1_hasWallAt_1 : decode cX1_hasWallAt 1 = .ok (.getfield 37, 3) := by decide +kernel
theorem dX1_hasWallAt_4 : decode cX1_hasWallAt 4 = .ok (.iconst 1, 1) := by decide +kernel
theorem dX1_hasWallAt_5 : decode cX1_hasWallAt 5 = .ok (.iload_n 1, 1) := by decide +kernel
theorem dX1_hasWallAt_6 : decode cX1_hasWallAt 6 = .ok (.ishl, 1) := by decide +kernel
theorem dX1_hasWallAt_7 : decode cX1_hasWallAt 7 = .ok (.iand, 1) := by decide +kernel
theorem dX1_hasWallAt_8 : decode cX1_hasWallAt 8 = .ok (.ifCond .eq 7, 3) := by decide +kernel
theorem dX1_hasWallAt_11 : decode cX1_hasWallAt 11 = .ok (.iconst 1, 1) := by decide +kernel
theorem dX1_hasWallAt_12 : decode cX1_hasWallAt 12 = .ok (.goto 4, 3) := by decide +kernel
theorem dX1_hasWallAt_15 : decode cX1_hasWallAt 15 = .ok (.iconst 0, 1) := by decide +kernel
theorem dX1_hasWallAt_16 : decode cX1_hasWallAt 16 = .ok (.ireturn, 1) := by decide +kernel
theorem dX1_carAt_0 : decode cX1_carAt 0 = .ok (.iconst 0, 1) := by decide +kernel
theorem dX1_carAt_1 : decode cX1_carAt 1 = .ok (.istore_n 2, 1) := by decide +kernel
theorem dX1_carAt_2 : decode cX1_carAt 2 = .ok (.iload_n 2, 1) := by decide +kernel
theorem dX1_carAt_3 : decode cX1_carAt 3 = .ok (.aload_n 0, 1) := by decide +kernel
theorem dX1_carAt_4 : decode cX1_carAt 4 = .ok (.getfield 33, 3) := by decide +kernel
theorem dX1_carAt_7 : decode cX1_carAt 7 = .ok (.if_icmp .ge 45, 3) := by decide +kernel
theorem dX1_carAt_10 : decode cX1_carAt 10 = .ok (.iload_n 2, 1) := by decide +kernel
theorem dX1_carAt_11 : decode cX1_carAt 11 = .ok (.bipush 6, 2) := by decide +kernel
theorem dX1_carAt_13 : decode cX1_carAt 13 = .ok (.if_icmp .ge 39, 3) := by decide +kernel
theorem dX1_carAt_16 : decode cX1_carAt 16 = .ok (.aload_n 0, 1) := by decide +kernel
theorem dX1_carAt_17 : decode cX1_carAt 17 = .ok (.getfield 9, 3) := by decide +kernel
theorem dX1_carAt_20 : decode cX1_carAt 20 = .ok (.iload_n 2, 1) := by decide +kernel
theorem dX1_carAt_21 : decode cX1_carAt 21 = .ok (.iaload, 1) := by decide +kernel
theorem dX1_carAt_22 : decode cX1_carAt 22 = .ok (.aload_n 0, 1) := by decide +kernel
theorem dX1_carAt_23 : decode cX1_carAt 23 = .ok (.getfield 15, 3) := by decide +kernel
theorem dX1_carAt_26 : decode cX1_carAt 26 = .ok (.iload_n 2, 1) := by decide +kernel
theorem dX1_carAt_27 : decode cX1_carAt 27 = .ok (.iaload, 1) := by decide +kernel
theorem dX1_carAt_28 : decode cX1_carAt 28 = .ok (.aload_n 0, 1) := by decide +kernel
theorem dX1_carAt_29 : decode cX1_carAt 29 = .ok (.getfield 18, 3) := by decide +kernel
theorem dX1_carAt_32 : decode cX1_carAt 32 = .ok (.iload_n 2, 1) := by decide +kernel
theorem dX1_carAt_33 : decode cX1_carAt 33 = .ok (.iaload, 1) := by decide +kernel
theorem dX1_carAt_34 : decode cX1_carAt 34 = .ok (.invokestatic 50, 3) := by decide +kernel
theorem dX1_carAt_37 : decode cX1_carAt 37 = .ok (.iconst 1, 1) := by decide +kernel
theorem dX1_carAt_38 : decode cX1_carAt 38 = .ok (.iload_n 1, 1) := by decide +kernel
theorem dX1_carAt_39 : decode cX1_carAt 39 = .ok (.ishl, 1) := by decide +kernel
theorem dX1_carAt_40 : decode cX1_carAt 40 = .ok (.iand, 1) := by decide +kernel
theorem dX1_carAt_41 : decode cX1_carAt 41 = .ok (.ifCond .eq 5, 3) := by decide +kernel
theorem dX1_carAt_44 : decode cX1_carAt 44 = .ok (.iload_n 2, 1) := by decide +kernel
theorem dX1_carAt_45 : decode cX1_carAt 45 = .ok (.ireturn, 1) := by decide +kernel
theorem dX1_carAt_46 : decode cX1_carAt 46 = .ok (.iinc 2 1, 3) := by decide +kernel
theorem dX1_carAt_49 : decode cX1_carAt 49 = .ok (.goto (-47), 3) := by decide +kernel
theorem dX1_carAt_52 : decode cX1_carAt 52 = .ok (.iconst (-1), 1) := by decide +kernel
theorem dX1_carAt_53 : decode cX1_carAt 53 = .ok (.ireturn, 1) := by decide +kernel
theorem dX1_takenCells_0 : decode cX1_takenCells 0 = .ok (.aload_n 0, 1) := by decide +kernel
theorem dX1_takenCells_1 : decode cX1_takenCells 1 = .ok (.getfield 37, 3) := by decide +kernel
theorem dX1_takenCells_4 : decode cX1_takenCells 4 = .ok (.istore_n 1, 1) := by decide +kernel
theorem dX1_takenCells_5 : decode cX1_takenCells 5 = .ok (.iconst 0, 1) := by decide +kernel
theorem dX1_takenCells_6 : decode cX1_takenCells 6 = .ok (.istore_n 2, 1) := by decide +kernel
theorem dX1_takenCells_7 : decode cX1_takenCells 7 = .ok (.iload_n 2, 1) := by decide +kernel
theorem dX1_takenCells_8 : decode cX1_takenCells 8 = .ok (.aload_n 0, 1) := by decide +kernel
theorem dX1_takenCells_9 : decode cX1_takenCells 9 = .ok (.getfield 33, 3) := by decide +kernel
theorem dX1_takenCells_12 : decode cX1_takenCells 12 = .ok (.if_icmp .ge 39, 3) := by decide +kernel
theorem dX1_takenCells_15 : decode cX1_takenCells 15 = .ok (.iload_n 2, 1) := by decide +kernel
theorem dX1_takenCells_16 : decode cX1_takenCells 16 = .ok (.bipush 6, 2) := by decide +kernel
theorem dX1_takenCells_18 : decode cX1_takenCells 18 = .ok (.if_icmp .ge 33, 3) := by decide +kernel
theorem dX1_takenCells_21 : decode cX1_takenCells 21 = .ok (.iload_n 1, 1) := by decide +kernel
theorem dX1_takenCells_22 : decode cX1_takenCells 22 = .ok (.aload_n 0, 1) := by decide +kernel
theorem dX1_takenCells_23 : decode cX1_takenCells 23 = .ok (.getfield 9, 3) := by decide +kernel
theorem dX1_takenCells_26 : decode cX1_takenCells 26 = .ok (.iload_n 2, 1) := by decide +kernel
theorem dX1_takenCells_27 : decode cX1_takenCells 27 = .ok (.iaload, 1) := by decide +kernel
theorem dX1_takenCells_28 : decode cX1_takenCells 28 = .ok (.aload_n 0, 1) := by decide +kernel
theorem dX1_takenCells_29 : decode cX1_takenCells 29 = .ok (.getfield 15, 3) := by decide +kernel
theorem dX1_takenCells_32 : decode cX1_takenCells 32 = .ok (.iload_n 2, 1) := by decide +kernel
theorem dX1_takenCells_33 : decode cX1_takenCells 33 = .ok (.iaload, 1) := by decide +kernel
theorem dX1_takenCells_34 : decode cX1_takenCells 34 = .ok (.aload_n 0, 1) := by decide +kernel
theorem dX1_takenCells_35 : decode cX1_takenCells 35 = .ok (.getfield 18, 3) := by decide +kernel
theorem dX1_takenCells_38 : decode cX1_takenCells 38 = .ok (.iload_n 2, 1) := by decide +kernel
theorem dX1_takenCells_39 : decode cX1_takenCells 39 = .ok (.iaload, 1) := by decide +kernel
theorem dX1_takenCells_40 : decode cX1_takenCells 40 = .ok (.invokestatic 50, 3) := by decide +kernel
theorem dX1_takenCells_43 : decode cX1_takenCells 43 = .ok (.ior, 1) := by decide +kernel
theorem dX1_takenCells_44 : decode cX1_takenCells 44 = .ok (.istore_n 1, 1) := by decide +kernel
theorem dX1_takenCells_45 : decode cX1_takenCells 45 = .ok (.iinc 2 1, 3) := by decide +kernel
theorem dX1_takenCells_48 : decode cX1_takenCells 48 = .ok (.goto (-41), 3) := by decide +kernel
theorem dX1_takenCells_51 : decode cX1_takenCells 51 = .ok (.iload_n 1, 1) := by decide +kernel
theorem dX1_takenCells_52 : decode cX1_takenCells 52 = .ok (.ireturn, 1) := by decide +kernel
theorem dX1_isRedOut_0 : decode cX1_isRedOut 0 = .ok (.aload_n 0, 1) := by decide +kernel
theorem dX1_isRedOut_1 : decode cX1_isRedOut 1 = .ok (.getfield 33, 3) := by decide +kernel
theorem dX1_isRedOut_4 : decode cX1_isRedOut 4 = .ok (.ifCond .le 24, 3) := by decide +kernel
theorem dX1_isRedOut_7 : decode cX1_isRedOut 7 = .ok (.aload_n 0, 1) := by decide +kernel
theorem dX1_isRedOut_8 : decode cX1_isRedOut 8 = .ok (.getfield 15, 3) := by decide +kernel
theorem dX1_isRedOut_11 : decode cX1_isRedOut 11 = .ok (.iconst 0, 1) := by decide +kernel
theorem dX1_isRedOut_12 : decode cX1_isRedOut 12 = .ok (.iaload, 1) := by decide +kernel
theorem dX1_isRedOut_13 : decode cX1_isRedOut 13 = .ok (.aload_n 0, 1) := by decide +kernel
theorem dX1_isRedOut_14 : decode cX1_isRedOut 14 = .ok (.getfield 18, 3) := by decide +kernel
theorem dX1_isRedOut_17 : decode cX1_isRedOut 17 = .ok (.iconst 0, 1) := by decide +kernel
theorem dX1_isRedOut_18 : decode cX1_isRedOut 18 = .ok (.iaload, 1) := by decide +kernel
theorem dX1_isRedOut_19 : decode cX1_isRedOut 19 = .ok (.iadd, 1) := by decide +kernel
theorem dX1_isRedOut_20 : decode cX1_isRedOut 20 = .ok (.iconst 5, 1) := by decide +kernel
theorem dX1_isRedOut_21 : decode cX1_isRedOut 21 = .ok (.if_icmp .ne 7, 3) := by decide +kernel
theorem dX1_isRedOut_24 : decode cX1_isRedOut 24 = .ok (.iconst 1, 1) := by decide +kernel
theorem dX1_isRedOut_25 : decode cX1_isRedOut 25 = .ok (.goto 4, 3) := by decide +kernel
theorem dX1_isRedOut_28 : decode cX1_isRedOut 28 = .ok (.iconst 0, 1) := by decide +kernel
theorem dX1_isRedOut_29 : decode cX1_isRedOut 29 = .ok (.ireturn, 1) := by decide +kernel
theorem dX1_roomOf_0 : decode cX1_roomOf 0 = .ok (.aload_n 0, 1) := by decide +kernel
theorem dX1_roomOf_1 : decode cX1_roomOf 1 = .ok (.iload_n 1, 1) := by decide +kernel
theorem dX1_roomOf_2 : decode cX1_roomOf 2 = .ok (.invokevirtual 54, 3) := by decide +kernel
theorem dX1_roomOf_5 : decode cX1_roomOf 5 = .ok (.ifCond .ne 5, 3) := by decide +kernel
theorem dX1_roomOf_8 : decode cX1_roomOf 8 = .ok (.iconst 0, 1) := by decide +kernel
theorem dX1_roomOf_9 : decode cX1_roomOf 9 = .ok (.ireturn, 1) := by decide +kernel
theorem dX1_roomOf_10 : decode cX1_roomOf 10 = .ok (.aload_n 0, 1) := by decide +kernel
theorem dX1_roomOf_11 : decode cX1_roomOf 11 = .ok (.invokevirtual 58, 3) := by decide +kernel
theorem dX1_roomOf_14 : decode cX1_roomOf 14 = .ok (.istore_n 3, 1) := by decide +kernel
theorem dX1_roomOf_15 : decode cX1_roomOf 15 = .ok (.iload_n 2, 1) := by decide +kernel
theorem dX1_roomOf_16 : decode cX1_roomOf 16 = .ok (.ifCond .le 19, 3) := by decide +kernel
theorem dX1_roomOf_19 : decode cX1_roomOf 19 = .ok (.aload_n 0, 1) := by decide +kernel
theorem dX1_roomOf_20 : decode cX1_roomOf 20 = .ok (.getfield 15, 3) := by decide +kernel
theorem dX1_roomOf_23 : decode cX1_roomOf 23 = .ok (.iload_n 1, 1) := by decide +kernel
theorem dX1_roomOf_24 : decode cX1_roomOf 24 = .ok (.iaload, 1) := by decide +kernel
theorem dX1_roomOf_25 : decode cX1_roomOf 25 = .ok (.aload_n 0, 1) := by decide +kernel
theorem dX1_roomOf_26 : decode cX1_roomOf 26 = .ok (.getfield 18, 3) := by decide +kernel
theorem dX1_roomOf_29 : decode cX1_roomOf 29 = .ok (.iload_n 1, 1) := by decide +kernel
theorem dX1_roomOf_30 : decode cX1_roomOf 30 = .ok (.iaload, 1) := by decide +kernel
theorem dX1_roomOf_31 : decode cX1_roomOf 31 = .ok (.iadd, 1) := by decide +kernel
theorem dX1_roomOf_32 : decode cX1_roomOf 32 = .ok (.goto 11, 3) := by decide +kernel
theorem dX1_roomOf_35 : decode cX1_roomOf 35 = .ok (.aload_n 0, 1) := by decide +kernel
theorem dX1_roomOf_36 : decode cX1_roomOf 36 = .ok (.getfield 15, 3) := by decide +kernel
theorem dX1_roomOf_39 : decode cX1_roomOf 39 = .ok (.iload_n 1, 1) := by decide +kernel
theorem dX1_roomOf_40 : decode cX1_roomOf 40 = .ok (.iaload, 1) := by decide +kernel
theorem dX1_roomOf_41 : decode cX1_roomOf 41 = .ok (.iconst 1, 1) := by decide +kernel
theorem dX1_roomOf_42 : decode cX1_roomOf 42 = .ok (.isub, 1) := by decide +kernel
theorem dX1_roomOf_43 : decode cX1_roomOf 43 = .ok (.istore 4, 2) := by decide +kernel
theorem dX1_roomOf_45 : decode cX1_roomOf 45 = .ok (.iconst 0, 1) := by decide +kernel
theorem dX1_roomOf_46 : decode cX1_roomOf 46 = .ok (.istore 5, 2) := by decide +kernel
theorem dX1_roomOf_48 : decode cX1_roomOf 48 = .ok (.iload 5, 2) := by decide +kernel
theorem dX1_roomOf_50 : decode cX1_roomOf 50 = .ok (.iconst 3, 1) := by decide +kernel
theorem dX1_roomOf_51 : decode cX1_roomOf 51 = .ok (.if_icmp .ge 42, 3) := by decide +kernel
theorem dX1_roomOf_54 : decode cX1_roomOf 54 = .ok (.iload 4, 2) := by decide +kernel
theorem dX1_roomOf_56 : decode cX1_roomOf 56 = .ok (.ifCond .lt 37, 3) := by decide +kernel
theorem dX1_roomOf_59 : decode cX1_roomOf 59 = .ok (.iload 4, 2) := by decide +kernel
theorem dX1_roomOf_61 : decode cX1_roomOf 61 = .ok (.iconst 5, 1) := by decide +kernel
theorem dX1_roomOf_62 : decode cX1_roomOf 62 = .ok (.if_icmp .ge 31, 3) := by decide +kernel
theorem dX1_roomOf_65 : decode cX1_roomOf 65 = .ok (.iload_n 3, 1) := by decide +kernel
theorem dX1_roomOf_66 : decode cX1_roomOf 66 = .ok (.aload_n 0, 1) := by decide +kernel
theorem dX1_roomOf_67 : decode cX1_roomOf 67 = .ok (.getfield 9, 3) := by decide +kernel
theorem dX1_roomOf_70 : decode cX1_roomOf 70 = .ok (.iload_n 1, 1) := by decide +kernel
theorem dX1_roomOf_71 : decode cX1_roomOf 71 = .ok (.iaload, 1) := by decide +kernel
theorem dX1_roomOf_72 : decode cX1_roomOf 72 = .ok (.iload 4, 2) := by decide +kernel
theorem dX1_roomOf_74 : decode cX1_roomOf 74 = .ok (.invokestatic 62, 3) := by decide +kernel
theorem dX1_roomOf_77 : decode cX1_roomOf 77 = .ok (.iand, 1) := by decide +kernel
theorem dX1_roomOf_78 : decode cX1_roomOf 78 = .ok (.ifCond .ne 15, 3) := by decide +kernel
theorem dX1_roomOf_81 : decode cX1_roomOf 81 = .ok (.iinc 5 1, 3) := by decide +kernel
theorem dX1_roomOf_84 : decode cX1_roomOf 84 = .ok (.iload 4, 2) := by decide +kernel
theorem dX1_roomOf_86 : decode cX1_roomOf 86 = .ok (.iload_n 2, 1) := by decide +kernel
theorem dX1_roomOf_87 : decode cX1_roomOf 87 = .ok (.iadd, 1) := by decide +kernel
theorem dX1_roomOf_88 : decode cX1_roomOf 88 = .ok (.istore 4, 2) := by decide +kernel
theorem dX1_roomOf_90 : decode cX1_roomOf 90 = .ok (.goto (-42), 3) := by decide +kernel
theorem dX1_roomOf_93 : decode cX1_roomOf 93 = .ok (.iload 5, 2) := by decide +kernel
theorem dX1_roomOf_95 : decode cX1_roomOf 95 = .ok (.ireturn, 1) := by decide +kernel
theorem dX1_troubleOfEntering_0 : decode cX1_troubleOfEntering 0 = .ok (.iload_n 1, 1) := by decide +kernel
theorem dX1_troubleOfEntering_1 : decode cX1_troubleOfEntering 1 = .ok (.ifCond .lt 9, 3) := by decide +kernel
theorem dX1_troubleOfEntering_4 : decode cX1_troubleOfEntering 4 = .ok (.iload_n 1, 1) := by decide +kernel
theorem dX1_troubleOfEntering_5 : decode cX1_troubleOfEntering 5 = .ok (.bipush 10, 2) := by decide +kernel
theorem dX1_troubleOfEntering_7 : decode cX1_troubleOfEntering 7 = .ok (.if_icmp .lt 5, 3) := by decide +kernel
theorem dX1_troubleOfEntering_10 : decode cX1_troubleOfEntering 10 = .ok (.iconst 1, 1) := by decide +kernel
theorem dX1_troubleOfEntering_11 : decode cX1_troubleOfEntering 11 = .ok (.ireturn, 1) := by decide +kernel
theorem dX1_troubleOfEntering_12 : decode cX1_troubleOfEntering 12 = .ok (.iload_n 3, 1) := by decide +kernel
theorem dX1_troubleOfEntering_13 : decode cX1_troubleOfEntering 13 = .ok (.iconst 2, 1) := by decide +kernel
theorem dX1_troubleOfEntering_14 : decode cX1_troubleOfEntering 14 = .ok (.if_icmp .lt 19, 3) := by decide +kernel
theorem dX1_troubleOfEntering_17 : decode cX1_troubleOfEntering 17 = .ok (.iload_n 3, 1) := by decide +kernel
theorem dX1_troubleOfEntering_18 : decode cX1_troubleOfEntering 18 = .ok (.iconst 3, 1) := by decide +kernel
theorem dX1_troubleOfEntering_19 : decode cX1_troubleOfEntering 19 = .ok (.if_icmp .gt 14, 3) := by decide +kernel
theorem dX1_troubleOfEntering_22 : decode cX1_troubleOfEntering 22 = .ok (.iload_n 2, 1) := by decide +kernel
theorem dX1_troubleOfEntering_23 : decode cX1_troubleOfEntering 23 = .ok (.ifCond .lt 10, 3) := by decide +kernel
theorem dX1_troubleOfEntering_26 : decode cX1_troubleOfEntering 26 = .ok (.iload_n 2, 1) := by decide +kernel
theorem dX1_troubleOfEntering_27 : decode cX1_troubleOfEntering 27 = .ok (.iconst 5, 1) := by decide +kernel
theorem dX1_troubleOfEntering_28 : decode cX1_troubleOfEntering 28 = .ok (.iload_n 3, 1) := by decide +kernel
theorem dX1_troubleOfEntering_29 : decode cX1_troubleOfEntering 29 = .ok (.isub, 1) := by decide +kernel
theorem dX1_troubleOfEntering_30 : decode cX1_troubleOfEntering 30 = .ok (.if_icmp .le 5, 3) := by decide +kernel
theorem dX1_troubleOfEntering_33 : decode cX1_troubleOfEntering 33 = .ok (.iconst 2, 1) := by decide +kernel
theorem dX1_troubleOfEntering_34 : decode cX1_troubleOfEntering 34 = .ok (.ireturn, 1) := by decide +kernel
theorem dX1_troubleOfEntering_35 : decode cX1_troubleOfEntering 35 = .ok (.aload_n 0, 1) := by decide +kernel
theorem dX1_troubleOfEntering_36 : decode cX1_troubleOfEntering 36 = .ok (.getfield 33, 3) := by decide +kernel
theorem dX1_troubleOfEntering_39 : decode cX1_troubleOfEntering 39 = .ok (.ifCond .ne 12, 3) := by decide +kernel
theorem dX1_troubleOfEntering_42 : decode cX1_troubleOfEntering 42 = .ok (.iload_n 1, 1) := by decide +kernel
theorem dX1_troubleOfEntering_43 : decode cX1_troubleOfEntering 43 = .ok (.iconst 5, 1) := by decide +kernel
theorem dX1_troubleOfEntering_44 : decode cX1_troubleOfEntering 44 = .ok (.if_icmp .lt 7, 3) := by decide +kernel
theorem dX1_troubleOfEntering_47 : decode cX1_troubleOfEntering 47 = .ok (.iconst 1, 1) := by decide +kernel
theorem dX1_troubleOfEntering_48 : decode cX1_troubleOfEntering 48 = .ok (.goto 4, 3) := by decide +kernel
theorem dX1_troubleOfEntering_51 : decode cX1_troubleOfEntering 51 = .ok (.iconst 0, 1) := by decide +kernel
theorem dX1_troubleOfEntering_52 : decode cX1_troubleOfEntering 52 = .ok (.istore 4, 2) := by decide +kernel
theorem dX1_troubleOfEntering_54 : decode cX1_troubleOfEntering 54 = .ok (.aload_n 0, 1) := by decide +kernel
theorem dX1_troubleOfEntering_55 : decode cX1_troubleOfEntering 55 = .ok (.invokevirtual 58, 3) := by decide +kernel
theorem dX1_troubleOfEntering_58 : decode cX1_troubleOfEntering 58 = .ok (.iload_n 1, 1) := by decide +kernel
theorem dX1_troubleOfEntering_59 : decode cX1_troubleOfEntering 59 = .ok (.iload_n 2, 1) := by decide +kernel
theorem dX1_troubleOfEntering_60 : decode cX1_troubleOfEntering 60 = .ok (.iload_n 3, 1) := by decide +kernel
theorem dX1_troubleOfEntering_61 : decode cX1_troubleOfEntering 61 = .ok (.invokestatic 50, 3) := by decide +kernel
theorem dX1_troubleOfEntering_64 : decode cX1_troubleOfEntering 64 = .ok (.iand, 1) := by decide +kernel
theorem dX1_troubleOfEntering_65 : decode cX1_troubleOfEntering 65 = .ok (.ifCond .ne 7, 3) := by decide +kernel
theorem dX1_troubleOfEntering_68 : decode cX1_troubleOfEntering 68 = .ok (.iconst 1, 1) := by decide +kernel
theorem dX1_troubleOfEntering_69 : decode cX1_troubleOfEntering 69 = .ok (.goto 4, 3) := by decide +kernel
theorem dX1_troubleOfEntering_72 : decode cX1_troubleOfEntering 72 = .ok (.iconst 0, 1) := by decide +kernel
theorem dX1_troubleOfEntering_73 : decode cX1_troubleOfEntering 73 = .ok (.istore 5, 2) := by decide +kernel
theorem dX1_troubleOfEntering_75 : decode cX1_troubleOfEntering 75 = .ok (.aload_n 0, 1) := by decide +kernel
theorem dX1_troubleOfEntering_76 : decode cX1_troubleOfEntering 76 = .ok (.getfield 33, 3) := by decide +kernel
theorem dX1_troubleOfEntering_79 : decode cX1_troubleOfEntering 79 = .ok (.bipush 6, 2) := by decide +kernel
theorem dX1_troubleOfEntering_81 : decode cX1_troubleOfEntering 81 = .ok (.if_icmp .ge 13, 3) := by decide +kernel
theorem dX1_troubleOfEntering_84 : decode cX1_troubleOfEntering 84 = .ok (.iload 5, 2) := by decide +kernel
theorem dX1_troubleOfEntering_86 : decode cX1_troubleOfEntering 86 = .ok (.ifCond .eq 8, 3) := by decide +kernel
theorem dX1_troubleOfEntering_89 : decode cX1_troubleOfEntering 89 = .ok (.iload 4, 2) := by decide +kernel
theorem dX1_troubleOfEntering_91 : decode cX1_troubleOfEntering 91 = .ok (.ifCond .eq 7, 3) := by decide +kernel
theorem dX1_troubleOfEntering_94 : decode cX1_troubleOfEntering 94 = .ok (.iconst 3, 1) := by decide +kernel
theorem dX1_troubleOfEntering_95 : decode cX1_troubleOfEntering 95 = .ok (.goto 4, 3) := by decide +kernel
theorem dX1_troubleOfEntering_98 : decode cX1_troubleOfEntering 98 = .ok (.iconst 0, 1) := by decide +kernel
theorem dX1_troubleOfEntering_99 : decode cX1_troubleOfEntering 99 = .ok (.ireturn, 1) := by decide +kernel
theorem dX1_enter_0 : decode cX1_enter 0 = .ok (.aload_n 0, 1) := by decide +kernel
theorem dX1_enter_1 : decode cX1_enter 1 = .ok (.getfield 33, 3) := by decide +kernel
theorem dX1_enter_4 : decode cX1_enter 4 = .ok (.istore 4, 2) := by decide +kernel
theorem dX1_enter_6 : decode cX1_enter 6 = .ok (.iload 4, 2) := by decide +kernel
theorem dX1_enter_8 : decode cX1_enter 8 = .ok (.ifCond .lt 44, 3) := by decide +kernel
theorem dX1_enter_11 : decode cX1_enter 11 = .ok (.iload 4, 2) := by decide +kernel
theorem dX1_enter_13 : decode cX1_enter 13 = .ok (.bipush 6, 2) := by decide +kernel
theorem dX1_enter_15 : decode cX1_enter 15 = .ok (.if_icmp .ge 37, 3) := by decide +kernel
theorem dX1_enter_18 : decode cX1_enter 18 = .ok (.aload_n 0, 1) := by decide +kernel
theorem dX1_enter_19 : decode cX1_enter 19 = .ok (.getfield 9, 3) := by decide +kernel
theorem dX1_enter_22 : decode cX1_enter 22 = .ok (.iload 4, 2) := by decide +kernel
theorem dX1_enter_24 : decode cX1_enter 24 = .ok (.iload_n 1, 1) := by decide +kernel
theorem dX1_enter_25 : decode cX1_enter 25 = .ok (.iastore, 1) := by decide +kernel
theorem dX1_enter_26 : decode cX1_enter 26 = .ok (.aload_n 0, 1) := by decide +kernel
theorem dX1_enter_27 : decode cX1_enter 27 = .ok (.getfield 15, 3) := by decide +kernel
theorem dX1_enter_30 : decode cX1_enter 30 = .ok (.iload 4, 2) := by decide +kernel
theorem dX1_enter_32 : decode cX1_enter 32 = .ok (.iload_n 2, 1) := by decide +kernel
theorem dX1_enter_33 : decode cX1_enter 33 = .ok (.iastore, 1) := by decide +kernel
theorem dX1_enter_34 : decode cX1_enter 34 = .ok (.aload_n 0, 1) := by decide +kernel
theorem dX1_enter_35 : decode cX1_enter 35 = .ok (.getfield 18, 3) := by decide +kernel
theorem dX1_enter_38 : decode cX1_enter 38 = .ok (.iload 4, 2) := by decide +kernel
theorem dX1_enter_40 : decode cX1_enter 40 = .ok (.iload_n 3, 1) := by decide +kernel
theorem dX1_enter_41 : decode cX1_enter 41 = .ok (.iastore, 1) := by decide +kernel
theorem dX1_enter_42 : decode cX1_enter 42 = .ok (.aload_n 0, 1) := by decide +kernel
theorem dX1_enter_43 : decode cX1_enter 43 = .ok (.dup, 1) := by decide +kernel
theorem dX1_enter_44 : decode cX1_enter 44 = .ok (.getfield 33, 3) := by decide +kernel
theorem dX1_enter_47 : decode cX1_enter 47 = .ok (.iconst 1, 1) := by decide +kernel
theorem dX1_enter_48 : decode cX1_enter 48 = .ok (.iadd, 1) := by decide +kernel
theorem dX1_enter_49 : decode cX1_enter 49 = .ok (.putfield 33, 3) := by decide +kernel
theorem dX1_enter_52 : decode cX1_enter 52 = .ok (.aload_n 0, 1) := by decide +kernel
theorem dX1_enter_53 : decode cX1_enter 53 = .ok (.iconst 0, 1) := by decide +kernel
theorem dX1_enter_54 : decode cX1_enter 54 = .ok (.putfield 40, 3) := by decide +kernel
theorem dX1_enter_57 : decode cX1_enter 57 = .ok (.iload 4, 2) := by decide +kernel
theorem dX1_enter_59 : decode cX1_enter 59 = .ok (.ireturn, 1) := by decide +kernel
theorem dX1_leave_0 : decode cX1_leave 0 = .ok (.aload_n 0, 1) := by decide +kernel
theorem dX1_leave_1 : decode cX1_leave 1 = .ok (.dup, 1) := by decide +kernel
theorem dX1_leave_2 : decode cX1_leave 2 = .ok (.getfield 33, 3) := by decide +kernel
theorem dX1_leave_5 : decode cX1_leave 5 = .ok (.iconst 1, 1) := by decide +kernel
theorem dX1_leave_6 : decode cX1_leave 6 = .ok (.isub, 1) := by decide +kernel
theorem dX1_leave_7 : decode cX1_leave 7 = .ok (.putfield 33, 3) := by decide +kernel
theorem dX1_leave_10 : decode cX1_leave 10 = .ok (.aload_n 0, 1) := by decide +kernel
theorem dX1_leave_11 : decode cX1_leave 11 = .ok (.iconst 0, 1) := by decide +kernel
theorem dX1_leave_12 : decode cX1_leave 12 = .ok (.putfield 40, 3) := by decide +kernel
theorem dX1_leave_15 : decode cX1_leave 15 = .ok (.aload_n 0, 1) := by decide +kernel
theorem dX1_leave_16 : decode cX1_leave 16 = .ok (.getfield 33, 3) := by decide +kernel
theorem dX1_leave_19 : decode cX1_leave 19 = .ok (.ireturn, 1) := by decide +kernel
theorem dX1_troubleOfWall_0 : decode cX1_troubleOfWall 0 = .ok (.iload_n 1, 1) := by decide +kernel
theorem dX1_troubleOfWall_1 : decode cX1_troubleOfWall 1 = .ok (.invokestatic 66, 3) := by decide +kernel
theorem dX1_troubleOfWall_4 : decode cX1_troubleOfWall 4 = .ok (.ifCond .ne 5, 3) := by decide +kernel
theorem dX1_troubleOfWall_7 : decode cX1_troubleOfWall 7 = .ok (.iconst 1, 1) := by decide +kernel
theorem dX1_troubleOfWall_8 : decode cX1_troubleOfWall 8 = .ok (.ireturn, 1) := by decide +kernel
theorem dX1_troubleOfWall_9 : decode cX1_troubleOfWall 9 = .ok (.aload_n 0, 1) := by decide +kernel
theorem dX1_troubleOfWall_10 : decode cX1_troubleOfWall 10 = .ok (.iload_n 1, 1) := by decide +kernel
theorem dX1_troubleOfWall_11 : decode cX1_troubleOfWall 11 = .ok (.invokevirtual 69, 3) := by decide +kernel
theorem dX1_troubleOfWall_14 : decode cX1_troubleOfWall 14 = .ok (.ifCond .ne 18, 3) := by decide +kernel
theorem dX1_troubleOfWall_17 : decode cX1_troubleOfWall 17 = .ok (.aload_n 0, 1) := by decide +kernel
theorem dX1_troubleOfWall_18 : decode cX1_troubleOfWall 18 = .ok (.getfield 37, 3) := by decide +kernel
theorem dX1_troubleOfWall_21 : decode cX1_troubleOfWall 21 = .ok (.invokestatic 72, 3) := by decide +kernel
theorem dX1_troubleOfWall_24 : decode cX1_troubleOfWall 24 = .ok (.iconst 4, 1) := by decide +kernel
theorem dX1_troubleOfWall_25 : decode cX1_troubleOfWall 25 = .ok (.if_icmp .lt 7, 3) := by decide +kernel
theorem dX1_troubleOfWall_28 : decode cX1_troubleOfWall 28 = .ok (.iconst 1, 1) := by decide +kernel
theorem dX1_troubleOfWall_29 : decode cX1_troubleOfWall 29 = .ok (.goto 4, 3) := by decide +kernel
theorem dX1_troubleOfWall_32 : decode cX1_troubleOfWall 32 = .ok (.iconst 0, 1) := by decide +kernel
theorem dX1_troubleOfWall_33 : decode cX1_troubleOfWall 33 = .ok (.istore_n 2, 1) := by decide +kernel
theorem dX1_troubleOfWall_34 : decode cX1_troubleOfWall 34 = .ok (.aload_n 0, 1) := by decide +kernel
theorem dX1_troubleOfWall_35 : decode cX1_troubleOfWall 35 = .ok (.iload_n 1, 1) := by decide +kernel
theorem dX1_troubleOfWall_36 : decode cX1_troubleOfWall 36 = .ok (.invokevirtual 78, 3) := by decide +kernel
theorem dX1_troubleOfWall_39 : decode cX1_troubleOfWall 39 = .ok (.ifCond .ge 7, 3) := by decide +kernel
theorem dX1_troubleOfWall_42 : decode cX1_troubleOfWall 42 = .ok (.iload_n 2, 1) := by decide +kernel
theorem dX1_troubleOfWall_43 : decode cX1_troubleOfWall 43 = .ok (.ifCond .eq 7, 3) := by decide +kernel
theorem dX1_troubleOfWall_46 : decode cX1_troubleOfWall 46 = .ok (.iconst 3, 1) := by decide +kernel
theorem dX1_troubleOfWall_47 : decode cX1_troubleOfWall 47 = .ok (.goto 4, 3) := by decide +kernel
theorem dX1_troubleOfWall_50 : decode cX1_troubleOfWall 50 = .ok (.iconst 0, 1) := by decide +kernel
theorem dX1_troubleOfWall_51 : decode cX1_troubleOfWall 51 = .ok (.ireturn, 1) := by decide +kernel
theorem dX1_turnWall_0 : decode cX1_turnWall 0 = .ok (.aload_n 0, 1) := by decide +kernel
theorem dX1_turnWall_1 : decode cX1_turnWall 1 = .ok (.dup, 1) := by decide +kernel
theorem dX1_turnWall_2 : decode cX1_turnWall 2 = .ok (.getfield 37, 3) := by decide +kernel
theorem dX1_turnWall_5 : decode cX1_turnWall 5 = .ok (.iconst 1, 1) := by decide +kernel
theorem dX1_turnWall_6 : decode cX1_turnWall 6 = .ok (.iload_n 1, 1) := by decide +kernel
theorem dX1_turnWall_7 : decode cX1_turnWall 7 = .ok (.ishl, 1) := by decide +kernel
theorem dX1_turnWall_8 : decode cX1_turnWall 8 = .ok (.ixor, 1) := by decide +kernel
theorem dX1_turnWall_9 : decode cX1_turnWall 9 = .ok (.putfield 37, 3) := by decide +kernel
theorem dX1_turnWall_12 : decode cX1_turnWall 12 = .ok (.aload_n 0, 1) := by decide +kernel
theorem dX1_turnWall_13 : decode cX1_turnWall 13 = .ok (.iconst 0, 1) := by decide +kernel
theorem dX1_turnWall_14 : decode cX1_turnWall 14 = .ok (.putfield 40, 3) := by decide +kernel
theorem dX1_turnWall_17 : decode cX1_turnWall 17 = .ok (.aload_n 0, 1) := by decide +kernel
theorem dX1_turnWall_18 : decode cX1_turnWall 18 = .ok (.iload_n 1, 1) := by decide +kernel
theorem dX1_turnWall_19 : decode cX1_turnWall 19 = .ok (.invokevirtual 69, 3) := by decide +kernel
theorem dX1_turnWall_22 : decode cX1_turnWall 22 = .ok (.ireturn, 1) := by decide +kernel
theorem dX1_troubleOfSliding_0 : decode cX1_troubleOfSliding 0 = .ok (.aload_n 0, 1) := by decide +kernel
theorem dX1_troubleOfSliding_1 : decode cX1_troubleOfSliding 1 = .ok (.iload_n 1, 1) := by decide +kernel
theorem dX1_troubleOfSliding_2 : decode cX1_troubleOfSliding 2 = .ok (.invokevirtual 54, 3) := by decide +kernel
theorem dX1_troubleOfSliding_5 : decode cX1_troubleOfSliding 5 = .ok (.ifCond .ne 5, 3) := by decide +kernel
theorem dX1_troubleOfSliding_8 : decode cX1_troubleOfSliding 8 = .ok (.iconst 1, 1) := by decide +kernel
theorem dX1_troubleOfSliding_9 : decode cX1_troubleOfSliding 9 = .ok (.ireturn, 1) := by decide +kernel
theorem dX1_troubleOfSliding_10 : decode cX1_troubleOfSliding 10 = .ok (.iload_n 2, 1) := by decide +kernel
theorem dX1_troubleOfSliding_11 : decode cX1_troubleOfSliding 11 = .ok (.bipush (-3), 2) := by decide +kernel
theorem dX1_troubleOfSliding_13 : decode cX1_troubleOfSliding 13 = .ok (.if_icmp .lt 12, 3) := by decide +kernel
theorem dX1_troubleOfSliding_16 : decode cX1_troubleOfSliding 16 = .ok (.iload_n 2, 1) := by decide +kernel
theorem dX1_troubleOfSliding_17 : decode cX1_troubleOfSliding 17 = .ok (.iconst 3, 1) := by decide +kernel
theorem dX1_troubleOfSliding_18 : decode cX1_troubleOfSliding 18 = .ok (.if_icmp .gt 7, 3) := by decide +kernel
theorem dX1_troubleOfSliding_21 : decode cX1_troubleOfSliding 21 = .ok (.iload_n 2, 1) := by decide +kernel
theorem dX1_troubleOfSliding_22 : decode cX1_troubleOfSliding 22 = .ok (.ifCond .ne 5, 3) := by decide +kernel
theorem dX1_troubleOfSliding_25 : decode cX1_troubleOfSliding 25 = .ok (.iconst 2, 1) := by decide +kernel
theorem dX1_troubleOfSliding_26 : decode cX1_troubleOfSliding 26 = .ok (.ireturn, 1) := by decide +kernel
theorem dX1_troubleOfSliding_27 : decode cX1_troubleOfSliding 27 = .ok (.iload_n 2, 1) := by decide +kernel
theorem dX1_troubleOfSliding_28 : decode cX1_troubleOfSliding 28 = .ok (.ifCond .le 12, 3) := by decide +kernel
theorem dX1_troubleOfSliding_31 : decode cX1_troubleOfSliding 31 = .ok (.aload_n 0, 1) := by decide +kernel
theorem dX1_troubleOfSliding_32 : decode cX1_troubleOfSliding 32 = .ok (.iload_n 1, 1) := by decide +kernel
theorem dX1_troubleOfSliding_33 : decode cX1_troubleOfSliding 33 = .ok (.iconst 1, 1) := by decide +kernel
theorem dX1_troubleOfSliding_34 : decode cX1_troubleOfSliding 34 = .ok (.invokevirtual 81, 3) := by decide +kernel
theorem dX1_troubleOfSliding_37 : decode cX1_troubleOfSliding 37 = .ok (.goto 9, 3) := by decide +kernel
theorem dX1_troubleOfSliding_40 : decode cX1_troubleOfSliding 40 = .ok (.aload_n 0, 1) := by decide +kernel
theorem dX1_troubleOfSliding_41 : decode cX1_troubleOfSliding 41 = .ok (.iload_n 1, 1) := by decide +kernel
theorem dX1_troubleOfSliding_42 : decode cX1_troubleOfSliding 42 = .ok (.iconst (-1), 1) := by decide +kernel
theorem dX1_troubleOfSliding_43 : decode cX1_troubleOfSliding 43 = .ok (.invokevirtual 81, 3) := by decide +kernel
theorem dX1_troubleOfSliding_46 : decode cX1_troubleOfSliding 46 = .ok (.istore_n 3, 1) := by decide +kernel
theorem dX1_troubleOfSliding_47 : decode cX1_troubleOfSliding 47 = .ok (.iload_n 2, 1) := by decide +kernel
theorem dX1_troubleOfSliding_48 : decode cX1_troubleOfSliding 48 = .ok (.invokestatic 84, 3) := by decide +kernel
theorem dX1_troubleOfSliding_51 : decode cX1_troubleOfSliding 51 = .ok (.iload_n 3, 1) := by decide +kernel
theorem dX1_troubleOfSliding_52 : decode cX1_troubleOfSliding 52 = .ok (.if_icmp .le 7, 3) := by decide +kernel
theorem dX1_troubleOfSliding_55 : decode cX1_troubleOfSliding 55 = .ok (.iconst 3, 1) := by decide +kernel
theorem dX1_troubleOfSliding_56 : decode cX1_troubleOfSliding 56 = .ok (.goto 4, 3) := by decide +kernel
theorem dX1_troubleOfSliding_59 : decode cX1_troubleOfSliding 59 = .ok (.iconst 0, 1) := by decide +kernel
theorem dX1_troubleOfSliding_60 : decode cX1_troubleOfSliding 60 = .ok (.ireturn, 1) := by decide +kernel
theorem dX1_makeSlide_0 : decode cX1_makeSlide 0 = .ok (.aload_n 0, 1) := by decide +kernel
theorem dX1_makeSlide_1 : decode cX1_makeSlide 1 = .ok (.iload_n 1, 1) := by decide +kernel
theorem dX1_makeSlide_2 : decode cX1_makeSlide 2 = .ok (.invokevirtual 54, 3) := by decide +kernel
theorem dX1_makeSlide_5 : decode cX1_makeSlide 5 = .ok (.ifCond .eq 19, 3) := by decide +kernel
theorem dX1_makeSlide_8 : decode cX1_makeSlide 8 = .ok (.aload_n 0, 1) := by decide +kernel
theorem dX1_makeSlide_9 : decode cX1_makeSlide 9 = .ok (.getfield 40, 3) := by decide +kernel
theorem dX1_makeSlide_12 : decode cX1_makeSlide 12 = .ok (.ifCond .lt 12, 3) := by decide +kernel
theorem dX1_makeSlide_15 : decode cX1_makeSlide 15 = .ok (.aload_n 0, 1) := by decide +kernel
theorem dX1_makeSlide_16 : decode cX1_makeSlide 16 = .ok (.getfield 40, 3) := by decide +kernel
theorem dX1_makeSlide_19 : decode cX1_makeSlide 19 = .ok (.bipush 60, 2) := by decide +kernel
theorem dX1_makeSlide_21 : decode cX1_makeSlide 21 = .ok (.if_icmp .lt 5, 3) := by decide +kernel
theorem dX1_makeSlide_24 : decode cX1_makeSlide 24 = .ok (.iconst (-1), 1) := by decide +kernel
theorem dX1_makeSlide_25 : decode cX1_makeSlide 25 = .ok (.ireturn, 1) := by decide +kernel
theorem dX1_makeSlide_26 : decode cX1_makeSlide 26 = .ok (.aload_n 0, 1) := by decide +kernel
theorem dX1_makeSlide_27 : decode cX1_makeSlide 27 = .ok (.getfield 15, 3) := by decide +kernel
end
section
theorem dX1_makeSlide_30 : decode cX1_makeSlide 30 = .ok (.iload_n 1, 1) := by decide +kernel
theorem dX1_makeSlide_31 : decode cX1_makeSlide 31 = .ok (.dup2, 1) := by decide +kernel
theorem dX1_makeSlide_32 : decode cX1_makeSlide 32 = .ok (.iaload, 1) := by decide +kernel
theorem dX1_makeSlide_33 : decode cX1_makeSlide 33 = .ok (.iload_n 2, 1) := by decide +kernel
theorem dX1_makeSlide_34 : decode cX1_makeSlide 34 = .ok (.iadd, 1) := by decide +kernel
theorem dX1_makeSlide_35 : decode cX1_makeSlide 35 = .ok (.iastore, 1) := by decide +kernel
theorem dX1_makeSlide_36 : decode cX1_makeSlide 36 = .ok (.aload_n 0, 1) := by decide +kernel
theorem dX1_makeSlide_37 : decode cX1_makeSlide 37 = .ok (.getfield 21, 3) := by decide +kernel
theorem dX1_makeSlide_40 : decode cX1_makeSlide 40 = .ok (.aload_n 0, 1) := by decide +kernel
theorem dX1_makeSlide_41 : decode cX1_makeSlide 41 = .ok (.getfield 40, 3) := by decide +kernel
theorem dX1_makeSlide_44 : decode cX1_makeSlide 44 = .ok (.iload_n 1, 1) := by decide +kernel
theorem dX1_makeSlide_45 : decode cX1_makeSlide 45 = .ok (.iastore, 1) := by decide +kernel
theorem dX1_makeSlide_46 : decode cX1_makeSlide 46 = .ok (.aload_n 0, 1) := by decide +kernel
theorem dX1_makeSlide_47 : decode cX1_makeSlide 47 = .ok (.getfield 24, 3) := by decide +kernel
theorem dX1_makeSlide_50 : decode cX1_makeSlide 50 = .ok (.aload_n 0, 1) := by decide +kernel
theorem dX1_makeSlide_51 : decode cX1_makeSlide 51 = .ok (.getfield 40, 3) := by decide +kernel
theorem dX1_makeSlide_54 : decode cX1_makeSlide 54 = .ok (.iload_n 2, 1) := by decide +kernel
theorem dX1_makeSlide_55 : decode cX1_makeSlide 55 = .ok (.iastore, 1) := by decide +kernel
theorem dX1_makeSlide_56 : decode cX1_makeSlide 56 = .ok (.aload_n 0, 1) := by decide +kernel
theorem dX1_makeSlide_57 : decode cX1_makeSlide 57 = .ok (.dup, 1) := by decide +kernel
theorem dX1_makeSlide_58 : decode cX1_makeSlide 58 = .ok (.getfield 40, 3) := by decide +kernel
theorem dX1_makeSlide_61 : decode cX1_makeSlide 61 = .ok (.iconst 1, 1) := by decide +kernel
theorem dX1_makeSlide_62 : decode cX1_makeSlide 62 = .ok (.iadd, 1) := by decide +kernel
theorem dX1_makeSlide_63 : decode cX1_makeSlide 63 = .ok (.putfield 40, 3) := by decide +kernel
theorem dX1_makeSlide_66 : decode cX1_makeSlide 66 = .ok (.aload_n 0, 1) := by decide +kernel
theorem dX1_makeSlide_67 : decode cX1_makeSlide 67 = .ok (.getfield 15, 3) := by decide +kernel
theorem dX1_makeSlide_70 : decode cX1_makeSlide 70 = .ok (.iload_n 1, 1) := by decide +kernel
theorem dX1_makeSlide_71 : decode cX1_makeSlide 71 = .ok (.iaload, 1) := by decide +kernel
theorem dX1_makeSlide_72 : decode cX1_makeSlide 72 = .ok (.ireturn, 1) := by decide +kernel
theorem dX1_unmakeSlide_0 : decode cX1_unmakeSlide 0 = .ok (.aload_n 0, 1) := by decide +kernel
theorem dX1_unmakeSlide_1 : decode cX1_unmakeSlide 1 = .ok (.aload_n 0, 1) := by decide +kernel
theorem dX1_unmakeSlide_2 : decode cX1_unmakeSlide 2 = .ok (.getfield 40, 3) := by decide +kernel
theorem dX1_unmakeSlide_5 : decode cX1_unmakeSlide 5 = .ok (.iconst 1, 1) := by decide +kernel
theorem dX1_unmakeSlide_6 : decode cX1_unmakeSlide 6 = .ok (.isub, 1) := by decide +kernel
theorem dX1_unmakeSlide_7 : decode cX1_unmakeSlide 7 = .ok (.invokevirtual 89, 3) := by decide +kernel
theorem dX1_unmakeSlide_10 : decode cX1_unmakeSlide 10 = .ok (.ifCond .ne 5, 3) := by decide +kernel
theorem dX1_unmakeSlide_13 : decode cX1_unmakeSlide 13 = .ok (.iconst (-1), 1) := by decide +kernel
theorem dX1_unmakeSlide_14 : decode cX1_unmakeSlide 14 = .ok (.ireturn, 1) := by decide +kernel
theorem dX1_unmakeSlide_15 : decode cX1_unmakeSlide 15 = .ok (.aload_n 0, 1) := by decide +kernel
theorem dX1_unmakeSlide_16 : decode cX1_unmakeSlide 16 = .ok (.dup, 1) := by decide +kernel
theorem dX1_unmakeSlide_17 : decode cX1_unmakeSlide 17 = .ok (.getfield 40, 3) := by decide +kernel
theorem dX1_unmakeSlide_20 : decode cX1_unmakeSlide 20 = .ok (.iconst 1, 1) := by decide +kernel
theorem dX1_unmakeSlide_21 : decode cX1_unmakeSlide 21 = .ok (.isub, 1) := by decide +kernel
theorem dX1_unmakeSlide_22 : decode cX1_unmakeSlide 22 = .ok (.putfield 40, 3) := by decide +kernel
theorem dX1_unmakeSlide_25 : decode cX1_unmakeSlide 25 = .ok (.aload_n 0, 1) := by decide +kernel
theorem dX1_unmakeSlide_26 : decode cX1_unmakeSlide 26 = .ok (.getfield 21, 3) := by decide +kernel
theorem dX1_unmakeSlide_29 : decode cX1_unmakeSlide 29 = .ok (.aload_n 0, 1) := by decide +kernel
theorem dX1_unmakeSlide_30 : decode cX1_unmakeSlide 30 = .ok (.getfield 40, 3) := by decide +kernel
theorem dX1_unmakeSlide_33 : decode cX1_unmakeSlide 33 = .ok (.iaload, 1) := by decide +kernel
theorem dX1_unmakeSlide_34 : decode cX1_unmakeSlide 34 = .ok (.istore_n 1, 1) := by decide +kernel
theorem dX1_unmakeSlide_35 : decode cX1_unmakeSlide 35 = .ok (.aload_n 0, 1) := by decide +kernel
theorem dX1_unmakeSlide_36 : decode cX1_unmakeSlide 36 = .ok (.iload_n 1, 1) := by decide +kernel
theorem dX1_unmakeSlide_37 : decode cX1_unmakeSlide 37 = .ok (.invokevirtual 54, 3) := by decide +kernel
theorem dX1_unmakeSlide_40 : decode cX1_unmakeSlide 40 = .ok (.ifCond .eq 21, 3) := by decide +kernel
theorem dX1_unmakeSlide_43 : decode cX1_unmakeSlide 43 = .ok (.aload_n 0, 1) := by decide +kernel
theorem dX1_unmakeSlide_44 : decode cX1_unmakeSlide 44 = .ok (.getfield 15, 3) := by decide +kernel
theorem dX1_unmakeSlide_47 : decode cX1_unmakeSlide 47 = .ok (.iload_n 1, 1) := by decide +kernel
theorem dX1_unmakeSlide_48 : decode cX1_unmakeSlide 48 = .ok (.dup2, 1) := by decide +kernel
theorem dX1_unmakeSlide_49 : decode cX1_unmakeSlide 49 = .ok (.iaload, 1) := by decide +kernel
theorem dX1_unmakeSlide_50 : decode cX1_unmakeSlide 50 = .ok (.aload_n 0, 1) := by decide +kernel
theorem dX1_unmakeSlide_51 : decode cX1_unmakeSlide 51 = .ok (.getfield 24, 3) := by decide +kernel
theorem dX1_unmakeSlide_54 : decode cX1_unmakeSlide 54 = .ok (.aload_n 0, 1) := by decide +kernel
theorem dX1_unmakeSlide_55 : decode cX1_unmakeSlide 55 = .ok (.getfield 40, 3) := by decide +kernel
theorem dX1_unmakeSlide_58 : decode cX1_unmakeSlide 58 = .ok (.iaload, 1) := by decide +kernel
theorem dX1_unmakeSlide_59 : decode cX1_unmakeSlide 59 = .ok (.isub, 1) := by decide +kernel
theorem dX1_unmakeSlide_60 : decode cX1_unmakeSlide 60 = .ok (.iastore, 1) := by decide +kernel
theorem dX1_unmakeSlide_61 : decode cX1_unmakeSlide 61 = .ok (.iload_n 1, 1) := by decide +kernel
theorem dX1_unmakeSlide_62 : decode cX1_unmakeSlide 62 = .ok (.ireturn, 1) := by decide +kernel
theorem dX1_loggedSteps_0 : decode cX1_loggedSteps 0 = .ok (.iconst 0, 1) := by decide +kernel
theorem dX1_loggedSteps_1 : decode cX1_loggedSteps 1 = .ok (.istore_n 2, 1) := by decide +kernel
theorem dX1_loggedSteps_2 : decode cX1_loggedSteps 2 = .ok (.iconst 0, 1) := by decide +kernel
theorem dX1_loggedSteps_3 : decode cX1_loggedSteps 3 = .ok (.istore_n 3, 1) := by decide +kernel
theorem dX1_loggedSteps_4 : decode cX1_loggedSteps 4 = .ok (.iload_n 3, 1) := by decide +kernel
theorem dX1_loggedSteps_5 : decode cX1_loggedSteps 5 = .ok (.aload_n 0, 1) := by decide +kernel
theorem dX1_loggedSteps_6 : decode cX1_loggedSteps 6 = .ok (.getfield 40, 3) := by decide +kernel
theorem dX1_loggedSteps_9 : decode cX1_loggedSteps 9 = .ok (.if_icmp .ge 37, 3) := by decide +kernel
theorem dX1_loggedSteps_12 : decode cX1_loggedSteps 12 = .ok (.iload_n 3, 1) := by decide +kernel
theorem dX1_loggedSteps_13 : decode cX1_loggedSteps 13 = .ok (.bipush 60, 2) := by decide +kernel
theorem dX1_loggedSteps_15 : decode cX1_loggedSteps 15 = .ok (.if_icmp .ge 31, 3) := by decide +kernel
theorem dX1_loggedSteps_18 : decode cX1_loggedSteps 18 = .ok (.aload_n 0, 1) := by decide +kernel
theorem dX1_loggedSteps_19 : decode cX1_loggedSteps 19 = .ok (.getfield 21, 3) := by decide +kernel
theorem dX1_loggedSteps_22 : decode cX1_loggedSteps 22 = .ok (.iload_n 3, 1) := by decide +kernel
theorem dX1_loggedSteps_23 : decode cX1_loggedSteps 23 = .ok (.iaload, 1) := by decide +kernel
theorem dX1_loggedSteps_24 : decode cX1_loggedSteps 24 = .ok (.iload_n 1, 1) := by decide +kernel
theorem dX1_loggedSteps_25 : decode cX1_loggedSteps 25 = .ok (.if_icmp .ne 15, 3) := by decide +kernel
theorem dX1_loggedSteps_28 : decode cX1_loggedSteps 28 = .ok (.iload_n 2, 1) := by decide +kernel
theorem dX1_loggedSteps_29 : decode cX1_loggedSteps 29 = .ok (.aload_n 0, 1) := by decide +kernel
theorem dX1_loggedSteps_30 : decode cX1_loggedSteps 30 = .ok (.getfield 24, 3) := by decide +kernel
theorem dX1_loggedSteps_33 : decode cX1_loggedSteps 33 = .ok (.iload_n 3, 1) := by decide +kernel
theorem dX1_loggedSteps_34 : decode cX1_loggedSteps 34 = .ok (.iaload, 1) := by decide +kernel
theorem dX1_loggedSteps_35 : decode cX1_loggedSteps 35 = .ok (.invokestatic 84, 3) := by decide +kernel
theorem dX1_loggedSteps_38 : decode cX1_loggedSteps 38 = .ok (.iadd, 1) := by decide +kernel
theorem dX1_loggedSteps_39 : decode cX1_loggedSteps 39 = .ok (.istore_n 2, 1) := by decide +kernel
theorem dX1_loggedSteps_40 : decode cX1_loggedSteps 40 = .ok (.iinc 3 1, 3) := by decide +kernel
theorem dX1_loggedSteps_43 : decode cX1_loggedSteps 43 = .ok (.goto (-39), 3) := by decide +kernel
theorem dX1_loggedSteps_46 : decode cX1_loggedSteps 46 = .ok (.iload_n 2, 1) := by decide +kernel
theorem dX1_loggedSteps_47 : decode cX1_loggedSteps 47 = .ok (.ireturn, 1) := by decide +kernel
theorem dX1_fuelSlideBySlide_0 : decode cX1_fuelSlideBySlide 0 = .ok (.iconst 0, 1) := by decide +kernel
theorem dX1_fuelSlideBySlide_1 : decode cX1_fuelSlideBySlide 1 = .ok (.istore_n 1, 1) := by decide +kernel
theorem dX1_fuelSlideBySlide_2 : decode cX1_fuelSlideBySlide 2 = .ok (.iconst 0, 1) := by decide +kernel
theorem dX1_fuelSlideBySlide_3 : decode cX1_fuelSlideBySlide 3 = .ok (.istore_n 2, 1) := by decide +kernel
theorem dX1_fuelSlideBySlide_4 : decode cX1_fuelSlideBySlide 4 = .ok (.iload_n 2, 1) := by decide +kernel
theorem dX1_fuelSlideBySlide_5 : decode cX1_fuelSlideBySlide 5 = .ok (.aload_n 0, 1) := by decide +kernel
theorem dX1_fuelSlideBySlide_6 : decode cX1_fuelSlideBySlide 6 = .ok (.getfield 40, 3) := by decide +kernel
theorem dX1_fuelSlideBySlide_9 : decode cX1_fuelSlideBySlide 9 = .ok (.if_icmp .ge 53, 3) := by decide +kernel
theorem dX1_fuelSlideBySlide_12 : decode cX1_fuelSlideBySlide 12 = .ok (.iload_n 2, 1) := by decide +kernel
theorem dX1_fuelSlideBySlide_13 : decode cX1_fuelSlideBySlide 13 = .ok (.bipush 60, 2) := by decide +kernel
theorem dX1_fuelSlideBySlide_15 : decode cX1_fuelSlideBySlide 15 = .ok (.if_icmp .ge 47, 3) := by decide +kernel
theorem dX1_fuelSlideBySlide_18 : decode cX1_fuelSlideBySlide 18 = .ok (.aload_n 0, 1) := by decide +kernel
theorem dX1_fuelSlideBySlide_19 : decode cX1_fuelSlideBySlide 19 = .ok (.getfield 21, 3) := by decide +kernel
theorem dX1_fuelSlideBySlide_22 : decode cX1_fuelSlideBySlide 22 = .ok (.iload_n 2, 1) := by decide +kernel
theorem dX1_fuelSlideBySlide_23 : decode cX1_fuelSlideBySlide 23 = .ok (.iaload, 1) := by decide +kernel
theorem dX1_fuelSlideBySlide_24 : decode cX1_fuelSlideBySlide 24 = .ok (.istore_n 3, 1) := by decide +kernel
theorem dX1_fuelSlideBySlide_25 : decode cX1_fuelSlideBySlide 25 = .ok (.iload_n 1, 1) := by decide +kernel
theorem dX1_fuelSlideBySlide_26 : decode cX1_fuelSlideBySlide 26 = .ok (.aload_n 0, 1) := by decide +kernel
theorem dX1_fuelSlideBySlide_27 : decode cX1_fuelSlideBySlide 27 = .ok (.iload_n 3, 1) := by decide +kernel
theorem dX1_fuelSlideBySlide_28 : decode cX1_fuelSlideBySlide 28 = .ok (.invokevirtual 54, 3) := by decide +kernel
theorem dX1_fuelSlideBySlide_31 : decode cX1_fuelSlideBySlide 31 = .ok (.ifCond .eq 22, 3) := by decide +kernel
theorem dX1_fuelSlideBySlide_34 : decode cX1_fuelSlideBySlide 34 = .ok (.aload_n 0, 1) := by decide +kernel
theorem dX1_fuelSlideBySlide_35 : decode cX1_fuelSlideBySlide 35 = .ok (.getfield 24, 3) := by decide +kernel
theorem dX1_fuelSlideBySlide_38 : decode cX1_fuelSlideBySlide 38 = .ok (.iload_n 2, 1) := by decide +kernel
theorem dX1_fuelSlideBySlide_39 : decode cX1_fuelSlideBySlide 39 = .ok (.iaload, 1) := by decide +kernel
theorem dX1_fuelSlideBySlide_40 : decode cX1_fuelSlideBySlide 40 = .ok (.invokestatic 84, 3) := by decide +kernel
theorem dX1_fuelSlideBySlide_43 : decode cX1_fuelSlideBySlide 43 = .ok (.aload_n 0, 1) := by decide +kernel
theorem dX1_fuelSlideBySlide_44 : decode cX1_fuelSlideBySlide 44 = .ok (.getfield 18, 3) := by decide +kernel
theorem dX1_fuelSlideBySlide_47 : decode cX1_fuelSlideBySlide 47 = .ok (.iload_n 3, 1) := by decide +kernel
theorem dX1_fuelSlideBySlide_48 : decode cX1_fuelSlideBySlide 48 = .ok (.iaload, 1) := by decide +kernel
theorem dX1_fuelSlideBySlide_49 : decode cX1_fuelSlideBySlide 49 = .ok (.imul, 1) := by decide +kernel
theorem dX1_fuelSlideBySlide_50 : decode cX1_fuelSlideBySlide 50 = .ok (.goto 4, 3) := by decide +kernel
theorem dX1_fuelSlideBySlide_53 : decode cX1_fuelSlideBySlide 53 = .ok (.iconst 0, 1) := by decide +kernel
theorem dX1_fuelSlideBySlide_54 : decode cX1_fuelSlideBySlide 54 = .ok (.iadd, 1) := by decide +kernel
theorem dX1_fuelSlideBySlide_55 : decode cX1_fuelSlideBySlide 55 = .ok (.istore_n 1, 1) := by decide +kernel
theorem dX1_fuelSlideBySlide_56 : decode cX1_fuelSlideBySlide 56 = .ok (.iinc 2 1, 3) := by decide +kernel
theorem dX1_fuelSlideBySlide_59 : decode cX1_fuelSlideBySlide 59 = .ok (.goto (-55), 3) := by decide +kernel
theorem dX1_fuelSlideBySlide_62 : decode cX1_fuelSlideBySlide 62 = .ok (.iload_n 1, 1) := by decide +kernel
theorem dX1_fuelSlideBySlide_63 : decode cX1_fuelSlideBySlide 63 = .ok (.ireturn, 1) := by decide +kernel
theorem dX1_fuelCarByCar_0 : decode cX1_fuelCarByCar 0 = .ok (.iconst 0, 1) := by decide +kernel
theorem dX1_fuelCarByCar_1 : decode cX1_fuelCarByCar 1 = .ok (.istore_n 1, 1) := by decide +kernel
theorem dX1_fuelCarByCar_2 : decode cX1_fuelCarByCar 2 = .ok (.iconst 0, 1) := by decide +kernel
theorem dX1_fuelCarByCar_3 : decode cX1_fuelCarByCar 3 = .ok (.istore_n 2, 1) := by decide +kernel
theorem dX1_fuelCarByCar_4 : decode cX1_fuelCarByCar 4 = .ok (.iload_n 2, 1) := by decide +kernel
theorem dX1_fuelCarByCar_5 : decode cX1_fuelCarByCar 5 = .ok (.aload_n 0, 1) := by decide +kernel
theorem dX1_fuelCarByCar_6 : decode cX1_fuelCarByCar 6 = .ok (.getfield 33, 3) := by decide +kernel
theorem dX1_fuelCarByCar_9 : decode cX1_fuelCarByCar 9 = .ok (.if_icmp .ge 30, 3) := by decide +kernel
theorem dX1_fuelCarByCar_12 : decode cX1_fuelCarByCar 12 = .ok (.iload_n 2, 1) := by decide +kernel
theorem dX1_fuelCarByCar_13 : decode cX1_fuelCarByCar 13 = .ok (.bipush 6, 2) := by decide +kernel
theorem dX1_fuelCarByCar_15 : decode cX1_fuelCarByCar 15 = .ok (.if_icmp .ge 24, 3) := by decide +kernel
theorem dX1_fuelCarByCar_18 : decode cX1_fuelCarByCar 18 = .ok (.iload_n 1, 1) := by decide +kernel
theorem dX1_fuelCarByCar_19 : decode cX1_fuelCarByCar 19 = .ok (.aload_n 0, 1) := by decide +kernel
theorem dX1_fuelCarByCar_20 : decode cX1_fuelCarByCar 20 = .ok (.iload_n 2, 1) := by decide +kernel
theorem dX1_fuelCarByCar_21 : decode cX1_fuelCarByCar 21 = .ok (.invokevirtual 92, 3) := by decide +kernel
theorem dX1_fuelCarByCar_24 : decode cX1_fuelCarByCar 24 = .ok (.aload_n 0, 1) := by decide +kernel
theorem dX1_fuelCarByCar_25 : decode cX1_fuelCarByCar 25 = .ok (.getfield 18, 3) := by decide +kernel
theorem dX1_fuelCarByCar_28 : decode cX1_fuelCarByCar 28 = .ok (.iload_n 2, 1) := by decide +kernel
theorem dX1_fuelCarByCar_29 : decode cX1_fuelCarByCar 29 = .ok (.iaload, 1) := by decide +kernel
theorem dX1_fuelCarByCar_30 : decode cX1_fuelCarByCar 30 = .ok (.imul, 1) := by decide +kernel
theorem dX1_fuelCarByCar_31 : decode cX1_fuelCarByCar 31 = .ok (.iadd, 1) := by decide +kernel
theorem dX1_fuelCarByCar_32 : decode cX1_fuelCarByCar 32 = .ok (.istore_n 1, 1) := by decide +kernel
theorem dX1_fuelCarByCar_33 : decode cX1_fuelCarByCar 33 = .ok (.iinc 2 1, 3) := by decide +kernel
theorem dX1_fuelCarByCar_36 : decode cX1_fuelCarByCar 36 = .ok (.goto (-32), 3) := by decide +kernel
theorem dX1_fuelCarByCar_39 : decode cX1_fuelCarByCar 39 = .ok (.iload_n 1, 1) := by decide +kernel
theorem dX1_fuelCarByCar_40 : decode cX1_fuelCarByCar 40 = .ok (.ireturn, 1) := by decide +kernel
theorem dX2_init_0 : decode cX2_init 0 = .ok (.aload_n 0, 1) := by decide +kernel
theorem dX2_init_1 : decode cX2_init 1 = .ok (.invokespecial 3, 3) := by decide +kernel
theorem dX2_init_4 : decode cX2_init 4 = .ok (.aload_n 0, 1) := by decide +kernel
theorem dX2_init_5 : decode cX2_init 5 = .ok (.bipush 60, 2) := by decide +kernel
theorem dX2_init_7 : decode cX2_init 7 = .ok (.newarray .int, 2) := by decide +kernel
theorem dX2_init_9 : decode cX2_init 9 = .ok (.putfield 9, 3) := by decide +kernel
theorem dX2_init_12 : decode cX2_init 12 = .ok (.return_, 1) := by decide +kernel
theorem dX2_add_0 : decode cX2_add 0 = .ok (.aload_n 0, 1) := by decide +kernel
theorem dX2_add_1 : decode cX2_add 1 = .ok (.getfield 15, 3) := by decide +kernel
theorem dX2_add_4 : decode cX2_add 4 = .ok (.ifCond .lt 32, 3) := by decide +kernel
theorem dX2_add_7 : decode cX2_add 7 = .ok (.aload_n 0, 1) := by decide +kernel
theorem dX2_add_8 : decode cX2_add 8 = .ok (.getfield 15, 3) := by decide +kernel
theorem dX2_add_11 : decode cX2_add 11 = .ok (.bipush 60, 2) := by decide +kernel
theorem dX2_add_13 : decode cX2_add 13 = .ok (.if_icmp .ge 23, 3) := by decide +kernel
theorem dX2_add_16 : decode cX2_add 16 = .ok (.aload_n 0, 1) := by decide +kernel
theorem dX2_add_17 : decode cX2_add 17 = .ok (.getfield 9, 3) := by decide +kernel
theorem dX2_add_20 : decode cX2_add 20 = .ok (.aload_n 0, 1) := by decide +kernel
theorem dX2_add_21 : decode cX2_add 21 = .ok (.getfield 15, 3) := by decide +kernel
theorem dX2_add_24 : decode cX2_add 24 = .ok (.iload_n 1, 1) := by decide +kernel
theorem dX2_add_25 : decode cX2_add 25 = .ok (.iastore, 1) := by decide +kernel
theorem dX2_add_26 : decode cX2_add 26 = .ok (.aload_n 0, 1) := by decide +kernel
theorem dX2_add_27 : decode cX2_add 27 = .ok (.dup, 1) := by decide +kernel
theorem dX2_add_28 : decode cX2_add 28 = .ok (.getfield 15, 3) := by decide +kernel
theorem dX2_add_31 : decode cX2_add 31 = .ok (.iconst 1, 1) := by decide +kernel
theorem dX2_add_32 : decode cX2_add 32 = .ok (.iadd, 1) := by decide +kernel
theorem dX2_add_33 : decode cX2_add 33 = .ok (.putfield 15, 3) := by decide +kernel
theorem dX2_add_36 : decode cX2_add 36 = .ok (.aload_n 0, 1) := by decide +kernel
theorem dX2_add_37 : decode cX2_add 37 = .ok (.getfield 15, 3) := by decide +kernel
theorem dX2_add_40 : decode cX2_add 40 = .ok (.ireturn, 1) := by decide +kernel
theorem dX2_clear_0 : decode cX2_clear 0 = .ok (.aload_n 0, 1) := by decide +kernel
theorem dX2_clear_1 : decode cX2_clear 1 = .ok (.getfield 15, 3) := by decide +kernel
theorem dX2_clear_4 : decode cX2_clear 4 = .ok (.istore_n 1, 1) := by decide +kernel
theorem dX2_clear_5 : decode cX2_clear 5 = .ok (.aload_n 0, 1) := by decide +kernel
theorem dX2_clear_6 : decode cX2_clear 6 = .ok (.iconst 0, 1) := by decide +kernel
theorem dX2_clear_7 : decode cX2_clear 7 = .ok (.putfield 15, 3) := by decide +kernel
theorem dX2_clear_10 : decode cX2_clear 10 = .ok (.iload_n 1, 1) := by decide +kernel
theorem dX2_clear_11 : decode cX2_clear 11 = .ok (.ireturn, 1) := by decide +kernel
theorem dX2_codeAt_0 : decode cX2_codeAt 0 = .ok (.iload_n 1, 1) := by decide +kernel
theorem dX2_codeAt_1 : decode cX2_codeAt 1 = .ok (.ifCond .lt 26, 3) := by decide +kernel
theorem dX2_codeAt_4 : decode cX2_codeAt 4 = .ok (.iload_n 1, 1) := by decide +kernel
theorem dX2_codeAt_5 : decode cX2_codeAt 5 = .ok (.aload_n 0, 1) := by decide +kernel
theorem dX2_codeAt_6 : decode cX2_codeAt 6 = .ok (.getfield 15, 3) := by decide +kernel
theorem dX2_codeAt_9 : decode cX2_codeAt 9 = .ok (.if_icmp .ge 18, 3) := by decide +kernel
theorem dX2_codeAt_12 : decode cX2_codeAt 12 = .ok (.iload_n 1, 1) := by decide +kernel
theorem dX2_codeAt_13 : decode cX2_codeAt 13 = .ok (.bipush 60, 2) := by decide +kernel
theorem dX2_codeAt_15 : decode cX2_codeAt 15 = .ok (.if_icmp .ge 12, 3) := by decide +kernel
theorem dX2_codeAt_18 : decode cX2_codeAt 18 = .ok (.aload_n 0, 1) := by decide +kernel
theorem dX2_codeAt_19 : decode cX2_codeAt 19 = .ok (.getfield 9, 3) := by decide +kernel
theorem dX2_codeAt_22 : decode cX2_codeAt 22 = .ok (.iload_n 1, 1) := by decide +kernel
theorem dX2_codeAt_23 : decode cX2_codeAt 23 = .ok (.iaload, 1) := by decide +kernel
theorem dX2_codeAt_24 : decode cX2_codeAt 24 = .ok (.goto 4, 3) := by decide +kernel
theorem dX2_codeAt_27 : decode cX2_codeAt 27 = .ok (.iconst 0, 1) := by decide +kernel
theorem dX2_codeAt_28 : decode cX2_codeAt 28 = .ok (.ireturn, 1) := by decide +kernel
theorem dX2_digitAt_0 : decode cX2_digitAt 0 = .ok (.aload_n 0, 1) := by decide +kernel
theorem dX2_digitAt_1 : decode cX2_digitAt 1 = .ok (.iload_n 1, 1) := by decide +kernel
theorem dX2_digitAt_2 : decode cX2_digitAt 2 = .ok (.invokevirtual 19, 3) := by decide +kernel
theorem dX2_digitAt_5 : decode cX2_digitAt 5 = .ok (.bipush 48, 2) := by decide +kernel
theorem dX2_digitAt_7 : decode cX2_digitAt 7 = .ok (.isub, 1) := by decide +kernel
theorem dX2_digitAt_8 : decode cX2_digitAt 8 = .ok (.ireturn, 1) := by decide +kernel
theorem dX2_signAt_0 : decode cX2_signAt 0 = .ok (.aload_n 0, 1) := by decide +kernel
theorem dX2_signAt_1 : decode cX2_signAt 1 = .ok (.iload_n 1, 1) := by decide +kernel
theorem dX2_signAt_2 : decode cX2_signAt 2 = .ok (.invokevirtual 19, 3) := by decide +kernel
theorem dX2_signAt_5 : decode cX2_signAt 5 = .ok (.bipush 45, 2) := by decide +kernel
theorem dX2_signAt_7 : decode cX2_signAt 7 = .ok (.if_icmp .ne 7, 3) := by decide +kernel
theorem dX2_signAt_10 : decode cX2_signAt 10 = .ok (.iconst (-1), 1) := by decide +kernel
theorem dX2_signAt_11 : decode cX2_signAt 11 = .ok (.goto 4, 3) := by decide +kernel
theorem dX2_signAt_14 : decode cX2_signAt 14 = .ok (.iconst 1, 1) := by decide +kernel
theorem dX2_signAt_15 : decode cX2_signAt 15 = .ok (.ireturn, 1) := by decide +kernel
theorem dX2_cellAt_0 : decode cX2_cellAt 0 = .ok (.aload_n 0, 1) := by decide +kernel
theorem dX2_cellAt_1 : decode cX2_cellAt 1 = .ok (.iload_n 1, 1) := by decide +kernel
theorem dX2_cellAt_2 : decode cX2_cellAt 2 = .ok (.iconst 1, 1) := by decide +kernel
theorem dX2_cellAt_3 : decode cX2_cellAt 3 = .ok (.iadd, 1) := by decide +kernel
theorem dX2_cellAt_4 : decode cX2_cellAt 4 = .ok (.invokevirtual 19, 3) := by decide +kernel
theorem dX2_cellAt_7 : decode cX2_cellAt 7 = .ok (.bipush 48, 2) := by decide +kernel
theorem dX2_cellAt_9 : decode cX2_cellAt 9 = .ok (.bipush 57, 2) := by decide +kernel
theorem dX2_cellAt_11 : decode cX2_cellAt 11 = .ok (.invokestatic 23, 3) := by decide +kernel
theorem dX2_cellAt_14 : decode cX2_cellAt 14 = .ok (.istore_n 2, 1) := by decide +kernel
theorem dX2_cellAt_15 : decode cX2_cellAt 15 = .ok (.iload_n 2, 1) := by decide +kernel
theorem dX2_cellAt_16 : decode cX2_cellAt 16 = .ok (.ifCond .eq 22, 3) := by decide +kernel
theorem dX2_cellAt_19 : decode cX2_cellAt 19 = .ok (.bipush 10, 2) := by decide +kernel
theorem dX2_cellAt_21 : decode cX2_cellAt 21 = .ok (.aload_n 0, 1) := by decide +kernel
theorem dX2_cellAt_22 : decode cX2_cellAt 22 = .ok (.iload_n 1, 1) := by decide +kernel
theorem dX2_cellAt_23 : decode cX2_cellAt 23 = .ok (.invokevirtual 27, 3) := by decide +kernel
theorem dX2_cellAt_26 : decode cX2_cellAt 26 = .ok (.imul, 1) := by decide +kernel
theorem dX2_cellAt_27 : decode cX2_cellAt 27 = .ok (.aload_n 0, 1) := by decide +kernel
theorem dX2_cellAt_28 : decode cX2_cellAt 28 = .ok (.iload_n 1, 1) := by decide +kernel
theorem dX2_cellAt_29 : decode cX2_cellAt 29 = .ok (.iconst 1, 1) := by decide +kernel
theorem dX2_cellAt_30 : decode cX2_cellAt 30 = .ok (.iadd, 1) := by decide +kernel
theorem dX2_cellAt_31 : decode cX2_cellAt 31 = .ok (.invokevirtual 27, 3) := by decide +kernel
theorem dX2_cellAt_34 : decode cX2_cellAt 34 = .ok (.iadd, 1) := by decide +kernel
theorem dX2_cellAt_35 : decode cX2_cellAt 35 = .ok (.goto 8, 3) := by decide +kernel
theorem dX2_cellAt_38 : decode cX2_cellAt 38 = .ok (.aload_n 0, 1) := by decide +kernel
theorem dX2_cellAt_39 : decode cX2_cellAt 39 = .ok (.iload_n 1, 1) := by decide +kernel
theorem dX2_cellAt_40 : decode cX2_cellAt 40 = .ok (.invokevirtual 27, 3) := by decide +kernel
theorem dX2_cellAt_43 : decode cX2_cellAt 43 = .ok (.ireturn, 1) := by decide +kernel
theorem dX2_nextPart_0 : decode cX2_nextPart 0 = .ok (.iload_n 1, 1) := by decide +kernel
theorem dX2_nextPart_1 : decode cX2_nextPart 1 = .ok (.istore_n 2, 1) := by decide +kernel
theorem dX2_nextPart_2 : decode cX2_nextPart 2 = .ok (.iload_n 2, 1) := by decide +kernel
theorem dX2_nextPart_3 : decode cX2_nextPart 3 = .ok (.aload_n 0, 1) := by decide +kernel
theorem dX2_nextPart_4 : decode cX2_nextPart 4 = .ok (.getfield 15, 3) := by decide +kernel
theorem dX2_nextPart_7 : decode cX2_nextPart 7 = .ok (.if_icmp .ge 19, 3) := by decide +kernel
theorem dX2_nextPart_10 : decode cX2_nextPart 10 = .ok (.aload_n 0, 1) := by decide +kernel
theorem dX2_nextPart_11 : decode cX2_nextPart 11 = .ok (.iload_n 2, 1) := by decide +kernel
theorem dX2_nextPart_12 : decode cX2_nextPart 12 = .ok (.invokevirtual 19, 3) := by decide +kernel
theorem dX2_nextPart_15 : decode cX2_nextPart 15 = .ok (.bipush 59, 2) := by decide +kernel
theorem dX2_nextPart_17 : decode cX2_nextPart 17 = .ok (.if_icmp .eq 9, 3) := by decide +kernel
theorem dX2_nextPart_20 : decode cX2_nextPart 20 = .ok (.iinc 2 1, 3) := by decide +kernel
theorem dX2_nextPart_23 : decode cX2_nextPart 23 = .ok (.goto (-21), 3) := by decide +kernel
theorem dX2_nextPart_26 : decode cX2_nextPart 26 = .ok (.iload_n 2, 1) := by decide +kernel
theorem dX2_nextPart_27 : decode cX2_nextPart 27 = .ok (.iconst 1, 1) := by decide +kernel
theorem dX2_nextPart_28 : decode cX2_nextPart 28 = .ok (.iadd, 1) := by decide +kernel
theorem dX2_nextPart_29 : decode cX2_nextPart 29 = .ok (.ireturn, 1) := by decide +kernel
theorem dX2_isComplete_0 : decode cX2_isComplete 0 = .ok (.iconst 0, 1) := by decide +kernel
theorem dX2_isComplete_1 : decode cX2_isComplete 1 = .ok (.istore_n 1, 1) := by decide +kernel
theorem dX2_isComplete_2 : decode cX2_isComplete 2 = .ok (.iconst 0, 1) := by decide +kernel
theorem dX2_isComplete_3 : decode cX2_isComplete 3 = .ok (.istore_n 2, 1) := by decide +kernel
theorem dX2_isComplete_4 : decode cX2_isComplete 4 = .ok (.iload_n 2, 1) := by decide +kernel
theorem dX2_isComplete_5 : decode cX2_isComplete 5 = .ok (.aload_n 0, 1) := by decide +kernel
theorem dX2_isComplete_6 : decode cX2_isComplete 6 = .ok (.getfield 15, 3) := by decide +kernel
theorem dX2_isComplete_9 : decode cX2_isComplete 9 = .ok (.if_icmp .ge 19, 3) := by decide +kernel
theorem dX2_isComplete_12 : decode cX2_isComplete 12 = .ok (.iload_n 1, 1) := by decide +kernel
theorem dX2_isComplete_13 : decode cX2_isComplete 13 = .ok (.aload_n 0, 1) := by decide +kernel
theorem dX2_isComplete_14 : decode cX2_isComplete 14 = .ok (.iload_n 2, 1) := by decide +kernel
theorem dX2_isComplete_15 : decode cX2_isComplete 15 = .ok (.invokevirtual 19, 3) := by decide +kernel
theorem dX2_isComplete_18 : decode cX2_isComplete 18 = .ok (.invokestatic 30, 3) := by decide +kernel
theorem dX2_isComplete_21 : decode cX2_isComplete 21 = .ok (.istore_n 1, 1) := by decide +kernel
theorem dX2_isComplete_22 : decode cX2_isComplete 22 = .ok (.iinc 2 1, 3) := by decide +kernel
theorem dX2_isComplete_25 : decode cX2_isComplete 25 = .ok (.goto (-21), 3) := by decide +kernel
theorem dX2_isComplete_28 : decode cX2_isComplete 28 = .ok (.iload_n 1, 1) := by decide +kernel
theorem dX2_isComplete_29 : decode cX2_isComplete 29 = .ok (.bipush 11, 2) := by decide +kernel
theorem dX2_isComplete_31 : decode cX2_isComplete 31 = .ok (.if_icmp .eq 15, 3) := by decide +kernel
theorem dX2_isComplete_34 : decode cX2_isComplete 34 = .ok (.iload_n 1, 1) := by decide +kernel
theorem dX2_isComplete_35 : decode cX2_isComplete 35 = .ok (.bipush 9, 2) := by decide +kernel
theorem dX2_isComplete_37 : decode cX2_isComplete 37 = .ok (.if_icmp .eq 9, 3) := by decide +kernel
theorem dX2_isComplete_40 : decode cX2_isComplete 40 = .ok (.iload_n 1, 1) := by decide +kernel
theorem dX2_isComplete_41 : decode cX2_isComplete 41 = .ok (.bipush 10, 2) := by decide +kernel
theorem dX2_isComplete_43 : decode cX2_isComplete 43 = .ok (.if_icmp .ne 7, 3) := by decide +kernel
theorem dX2_isComplete_46 : decode cX2_isComplete 46 = .ok (.iconst 1, 1) := by decide +kernel
theorem dX2_isComplete_47 : decode cX2_isComplete 47 = .ok (.goto 4, 3) := by decide +kernel
theorem dX2_isComplete_50 : decode cX2_isComplete 50 = .ok (.iconst 0, 1) := by decide +kernel
theorem dX2_isComplete_51 : decode cX2_isComplete 51 = .ok (.ireturn, 1) := by decide +kernel
theorem dX2_isAmong_0 : decode cX2_isAmong 0 = .ok (.iload_n 0, 1) := by decide +kernel
theorem dX2_isAmong_1 : decode cX2_isAmong 1 = .ok (.iload_n 1, 1) := by decide +kernel
theorem dX2_isAmong_2 : decode cX2_isAmong 2 = .ok (.if_icmp .lt 12, 3) := by decide +kernel
theorem dX2_isAmong_5 : decode cX2_isAmong 5 = .ok (.iload_n 0, 1) := by decide +kernel
theorem dX2_isAmong_6 : decode cX2_isAmong 6 = .ok (.iload_n 2, 1) := by decide +kernel
theorem dX2_isAmong_7 : decode cX2_isAmong 7 = .ok (.if_icmp .gt 7, 3) := by decide +kernel
theorem dX2_isAmong_10 : decode cX2_isAmong 10 = .ok (.iconst 1, 1) := by decide +kernel
theorem dX2_isAmong_11 : decode cX2_isAmong 11 = .ok (.goto 4, 3) := by decide +kernel
theorem dX2_isAmong_14 : decode cX2_isAmong 14 = .ok (.iconst 0, 1) := by decide +kernel
theorem dX2_isAmong_15 : decode cX2_isAmong 15 = .ok (.ireturn, 1) := by decide +kernel
theorem dX2_behind_0 : decode cX2_behind 0 = .ok (.iload_n 0, 1) := by decide +kernel
theorem dX2_behind_1 : decode cX2_behind 1 = .ok (.tableswitch 240 0 11 #[63, 68, 86, 99, 117, 130, 149, 169, 188, 193, 214, 235], 63) := by decide +kernel
theorem dX2_behind_64 : decode cX2_behind 64 = .ok (.iload_n 1, 1) := by decide +kernel
theorem dX2_behind_65 : decode cX2_behind 65 = .ok (.invokestatic 34, 3) := by decide +kernel
theorem dX2_behind_68 : decode cX2_behind 68 = .ok (.ireturn, 1) := by decide +kernel
theorem dX2_behind_69 : decode cX2_behind 69 = .ok (.iload_n 1, 1) := by decide +kernel
theorem dX2_behind_70 : decode cX2_behind 70 = .ok (.bipush 48, 2) := by decide +kernel
theorem dX2_behind_72 : decode cX2_behind 72 = .ok (.bipush 52, 2) := by decide +kernel
theorem dX2_behind_74 : decode cX2_behind 74 = .ok (.invokestatic 23, 3) := by decide +kernel
theorem dX2_behind_77 : decode cX2_behind 77 = .ok (.ifCond .eq 7, 3) := by decide +kernel
theorem dX2_behind_80 : decode cX2_behind 80 = .ok (.iconst 2, 1) := by decide +kernel
theorem dX2_behind_81 : decode cX2_behind 81 = .ok (.goto 5, 3) := by decide +kernel
theorem dX2_behind_84 : decode cX2_behind 84 = .ok (.bipush 12, 2) := by decide +kernel
theorem dX2_behind_86 : decode cX2_behind 86 = .ok (.ireturn, 1) := by decide +kernel
theorem dX2_behind_87 : decode cX2_behind 87 = .ok (.iload_n 1, 1) := by decide +kernel
theorem dX2_behind_88 : decode cX2_behind 88 = .ok (.bipush 46, 2) := by decide +kernel
theorem dX2_behind_90 : decode cX2_behind 90 = .ok (.if_icmp .ne 7, 3) := by decide +kernel
theorem dX2_behind_93 : decode cX2_behind 93 = .ok (.iconst 3, 1) := by decide +kernel
theorem dX2_behind_94 : decode cX2_behind 94 = .ok (.goto 5, 3) := by decide +kernel
theorem dX2_behind_97 : decode cX2_behind 97 = .ok (.bipush 12, 2) := by decide +kernel
theorem dX2_behind_99 : decode cX2_behind 99 = .ok (.ireturn, 1) := by decide +kernel
theorem dX2_behind_100 : decode cX2_behind 100 = .ok (.iload_n 1, 1) := by decide +kernel
theorem dX2_behind_101 : decode cX2_behind 101 = .ok (.bipush 48, 2) := by decide +kernel
theorem dX2_behind_103 : decode cX2_behind 103 = .ok (.bipush 51, 2) := by decide +kernel
theorem dX2_behind_105 : decode cX2_behind 105 = .ok (.invokestatic 23, 3) := by decide +kernel
theorem dX2_behind_108 : decode cX2_behind 108 = .ok (.ifCond .eq 7, 3) := by decide +kernel
theorem dX2_behind_111 : decode cX2_behind 111 = .ok (.iconst 4, 1) := by decide +kernel
theorem dX2_behind_112 : decode cX2_behind 112 = .ok (.goto 5, 3) := by decide +kernel
theorem dX2_behind_115 : decode cX2_behind 115 = .ok (.bipush 12, 2) := by decide +kernel
theorem dX2_behind_117 : decode cX2_behind 117 = .ok (.ireturn, 1) := by decide +kernel
theorem dX2_behind_118 : decode cX2_behind 118 = .ok (.iload_n 1, 1) := by decide +kernel
theorem dX2_behind_119 : decode cX2_behind 119 = .ok (.bipush 42, 2) := by decide +kernel
theorem dX2_behind_121 : decode cX2_behind 121 = .ok (.if_icmp .ne 7, 3) := by decide +kernel
theorem dX2_behind_124 : decode cX2_behind 124 = .ok (.iconst 5, 1) := by decide +kernel
theorem dX2_behind_125 : decode cX2_behind 125 = .ok (.goto 5, 3) := by decide +kernel
theorem dX2_behind_128 : decode cX2_behind 128 = .ok (.bipush 12, 2) := by decide +kernel
theorem dX2_behind_130 : decode cX2_behind 130 = .ok (.ireturn, 1) := by decide +kernel
theorem dX2_behind_131 : decode cX2_behind 131 = .ok (.iload_n 1, 1) := by decide +kernel
theorem dX2_behind_132 : decode cX2_behind 132 = .ok (.bipush 50, 2) := by decide +kernel
theorem dX2_behind_134 : decode cX2_behind 134 = .ok (.bipush 51, 2) := by decide +kernel
theorem dX2_behind_136 : decode cX2_behind 136 = .ok (.invokestatic 23, 3) := by decide +kernel
theorem dX2_behind_139 : decode cX2_behind 139 = .ok (.ifCond .eq 8, 3) := by decide +kernel
theorem dX2_behind_142 : decode cX2_behind 142 = .ok (.bipush 11, 2) := by decide +kernel
theorem dX2_behind_144 : decode cX2_behind 144 = .ok (.goto 5, 3) := by decide +kernel
theorem dX2_behind_147 : decode cX2_behind 147 = .ok (.bipush 12, 2) := by decide +kernel
theorem dX2_behind_149 : decode cX2_behind 149 = .ok (.ireturn, 1) := by decide +kernel
theorem dX2_behind_150 : decode cX2_behind 150 = .ok (.iload_n 1, 1) := by decide +kernel
theorem dX2_behind_151 : decode cX2_behind 151 = .ok (.bipush 43, 2) := by decide +kernel
theorem dX2_behind_153 : decode cX2_behind 153 = .ok (.if_icmp .eq 9, 3) := by decide +kernel
theorem dX2_behind_156 : decode cX2_behind 156 = .ok (.iload_n 1, 1) := by decide +kernel
theorem dX2_behind_157 : decode cX2_behind 157 = .ok (.bipush 45, 2) := by decide +kernel
theorem dX2_behind_159 : decode cX2_behind 159 = .ok (.if_icmp .ne 8, 3) := by decide +kernel
theorem dX2_behind_162 : decode cX2_behind 162 = .ok (.bipush 7, 2) := by decide +kernel
theorem dX2_behind_164 : decode cX2_behind 164 = .ok (.goto 5, 3) := by decide +kernel
theorem dX2_behind_167 : decode cX2_behind 167 = .ok (.bipush 12, 2) := by decide +kernel
theorem dX2_behind_169 : decode cX2_behind 169 = .ok (.ireturn, 1) := by decide +kernel
theorem dX2_behind_170 : decode cX2_behind 170 = .ok (.iload_n 1, 1) := by decide +kernel
theorem dX2_behind_171 : decode cX2_behind 171 = .ok (.bipush 49, 2) := by decide +kernel
theorem dX2_behind_173 : decode cX2_behind 173 = .ok (.bipush 51, 2) := by decide +kernel
theorem dX2_behind_175 : decode cX2_behind 175 = .ok (.invokestatic 23, 3) := by decide +kernel
theorem dX2_behind_178 : decode cX2_behind 178 = .ok (.ifCond .eq 8, 3) := by decide +kernel
theorem dX2_behind_181 : decode cX2_behind 181 = .ok (.bipush 11, 2) := by decide +kernel
theorem dX2_behind_183 : decode cX2_behind 183 = .ok (.goto 5, 3) := by decide +kernel
theorem dX2_behind_186 : decode cX2_behind 186 = .ok (.bipush 12, 2) := by decide +kernel
theorem dX2_behind_188 : decode cX2_behind 188 = .ok (.ireturn, 1) := by decide +kernel
theorem dX2_behind_189 : decode cX2_behind 189 = .ok (.iload_n 1, 1) := by decide +kernel
theorem dX2_behind_190 : decode cX2_behind 190 = .ok (.invokestatic 37, 3) := by decide +kernel
theorem dX2_behind_193 : decode cX2_behind 193 = .ok (.ireturn, 1) := by decide +kernel
theorem dX2_behind_194 : decode cX2_behind 194 = .ok (.iload_n 1, 1) := by decide +kernel
theorem dX2_behind_195 : decode cX2_behind 195 = .ok (.bipush 48, 2) := by decide +kernel
theorem dX2_behind_197 : decode cX2_behind 197 = .ok (.bipush 57, 2) := by decide +kernel
theorem dX2_behind_199 : decode cX2_behind 199 = .ok (.invokestatic 23, 3) := by decide +kernel
theorem dX2_behind_202 : decode cX2_behind 202 = .ok (.ifCond .eq 8, 3) := by decide +kernel
theorem dX2_behind_205 : decode cX2_behind 205 = .ok (.bipush 11, 2) := by decide +kernel
theorem dX2_behind_207 : decode cX2_behind 207 = .ok (.goto 7, 3) := by decide +kernel
theorem dX2_behind_210 : decode cX2_behind 210 = .ok (.iload_n 1, 1) := by decide +kernel
theorem dX2_behind_211 : decode cX2_behind 211 = .ok (.invokestatic 40, 3) := by decide +kernel
theorem dX2_behind_214 : decode cX2_behind 214 = .ok (.ireturn, 1) := by decide +kernel
theorem dX2_behind_215 : decode cX2_behind 215 = .ok (.iload_n 1, 1) := by decide +kernel
theorem dX2_behind_216 : decode cX2_behind 216 = .ok (.bipush 48, 2) := by decide +kernel
theorem dX2_behind_218 : decode cX2_behind 218 = .ok (.bipush 52, 2) := by decide +kernel
theorem dX2_behind_220 : decode cX2_behind 220 = .ok (.invokestatic 23, 3) := by decide +kernel
theorem dX2_behind_223 : decode cX2_behind 223 = .ok (.ifCond .eq 8, 3) := by decide +kernel
theorem dX2_behind_226 : decode cX2_behind 226 = .ok (.bipush 11, 2) := by decide +kernel
theorem dX2_behind_228 : decode cX2_behind 228 = .ok (.goto 7, 3) := by decide +kernel
theorem dX2_behind_231 : decode cX2_behind 231 = .ok (.iload_n 1, 1) := by decide +kernel
theorem dX2_behind_232 : decode cX2_behind 232 = .ok (.invokestatic 40, 3) := by decide +kernel
theorem dX2_behind_235 : decode cX2_behind 235 = .ok (.ireturn, 1) := by decide +kernel
theorem dX2_behind_236 : decode cX2_behind 236 = .ok (.iload_n 1, 1) := by decide +kernel
theorem dX2_behind_237 : decode cX2_behind 237 = .ok (.invokestatic 40, 3) := by decide +kernel
theorem dX2_behind_240 : decode cX2_behind 240 = .ok (.ireturn, 1) := by decide +kernel
theorem dX2_behind_241 : decode cX2_behind 241 = .ok (.bipush 12, 2) := by decide +kernel
theorem dX2_behind_243 : decode cX2_behind 243 = .ok (.ireturn, 1) := by decide +kernel
theorem dX2_behindBegin_0 : decode cX2_behindBegin 0 = .ok (.iload_n 0, 1) := by decide +kernel
theorem dX2_behindBegin_1 : decode cX2_behindBegin 1 = .ok (.bipush 104, 2) := by decide +kernel
theorem dX2_behindBegin_3 : decode cX2_behindBegin 3 = .ok (.if_icmp .eq 9, 3) := by decide +kernel
theorem dX2_behindBegin_6 : decode cX2_behindBegin 6 = .ok (.iload_n 0, 1) := by decide +kernel
theorem dX2_behindBegin_7 : decode cX2_behindBegin 7 = .ok (.bipush 118, 2) := by decide +kernel
theorem dX2_behindBegin_9 : decode cX2_behindBegin 9 = .ok (.if_icmp .ne 5, 3) := by decide +kernel
theorem dX2_behindBegin_12 : decode cX2_behindBegin 12 = .ok (.iconst 1, 1) := by decide +kernel
theorem dX2_behindBegin_13 : decode cX2_behindBegin 13 = .ok (.ireturn, 1) := by decide +kernel
theorem dX2_behindBegin_14 : decode cX2_behindBegin 14 = .ok (.iload_n 0, 1) := by decide +kernel
theorem dX2_behindBegin_15 : decode cX2_behindBegin 15 = .ok (.bipush 119, 2) := by decide +kernel
theorem dX2_behindBegin_17 : decode cX2_behindBegin 17 = .ok (.if_icmp .ne 6, 3) := by decide +kernel
theorem dX2_behindBegin_20 : decode cX2_behindBegin 20 = .ok (.bipush 8, 2) := by decide +kernel
theorem dX2_behindBegin_22 : decode cX2_behindBegin 22 = .ok (.ireturn, 1) := by decide +kernel
theorem dX2_behindBegin_23 : decode cX2_behindBegin 23 = .ok (.iload_n 0, 1) := by decide +kernel
theorem dX2_behindBegin_24 : decode cX2_behindBegin 24 = .ok (.bipush 98, 2) := by decide +kernel
theorem dX2_behindBegin_26 : decode cX2_behindBegin 26 = .ok (.if_icmp .eq 9, 3) := by decide +kernel
theorem dX2_behindBegin_29 : decode cX2_behindBegin 29 = .ok (.iload_n 0, 1) := by decide +kernel
theorem dX2_behindBegin_30 : decode cX2_behindBegin 30 = .ok (.bipush 100, 2) := by decide +kernel
theorem dX2_behindBegin_32 : decode cX2_behindBegin 32 = .ok (.if_icmp .ne 6, 3) := by decide +kernel
theorem dX2_behindBegin_35 : decode cX2_behindBegin 35 = .ok (.bipush 11, 2) := by decide +kernel
theorem dX2_behindBegin_37 : decode cX2_behindBegin 37 = .ok (.ireturn, 1) := by decide +kernel
theorem dX2_behindBegin_38 : decode cX2_behindBegin 38 = .ok (.iload_n 0, 1) := by decide +kernel
theorem dX2_behindBegin_39 : decode cX2_behindBegin 39 = .ok (.bipush 48, 2) := by decide +kernel
theorem dX2_behindBegin_41 : decode cX2_behindBegin 41 = .ok (.bipush 53, 2) := by decide +kernel
theorem dX2_behindBegin_43 : decode cX2_behindBegin 43 = .ok (.invokestatic 23, 3) := by decide +kernel
theorem dX2_behindBegin_46 : decode cX2_behindBegin 46 = .ok (.ifCond .eq 8, 3) := by decide +kernel
theorem dX2_behindBegin_49 : decode cX2_behindBegin 49 = .ok (.bipush 6, 2) := by decide +kernel
theorem dX2_behindBegin_51 : decode cX2_behindBegin 51 = .ok (.goto 5, 3) := by decide +kernel
theorem dX2_behindBegin_54 : decode cX2_behindBegin 54 = .ok (.bipush 12, 2) := by decide +kernel
theorem dX2_behindBegin_56 : decode cX2_behindBegin 56 = .ok (.ireturn, 1) := by decide +kernel
theorem dX2_behindWall_0 : decode cX2_behindWall 0 = .ok (.iload_n 0, 1) := by decide +kernel
theorem dX2_behindWall_1 : decode cX2_behindWall 1 = .ok (.bipush 49, 2) := by decide +kernel
theorem dX2_behindWall_3 : decode cX2_behindWall 3 = .ok (.if_icmp .ne 6, 3) := by decide +kernel
theorem dX2_behindWall_6 : decode cX2_behindWall 6 = .ok (.bipush 9, 2) := by decide +kernel
theorem dX2_behindWall_8 : decode cX2_behindWall 8 = .ok (.ireturn, 1) := by decide +kernel
theorem dX2_behindWall_9 : decode cX2_behindWall 9 = .ok (.iload_n 0, 1) := by decide +kernel
theorem dX2_behindWall_10 : decode cX2_behindWall 10 = .ok (.bipush 50, 2) := by decide +kernel
theorem dX2_behindWall_12 : decode cX2_behindWall 12 = .ok (.if_icmp .ne 6, 3) := by decide +kernel
theorem dX2_behindWall_15 : decode cX2_behindWall 15 = .ok (.bipush 10, 2) := by decide +kernel
theorem dX2_behindWall_17 : decode cX2_behindWall 17 = .ok (.ireturn, 1) := by decide +kernel
theorem dX2_behindWall_18 : decode cX2_behindWall 18 = .ok (.iload_n 0, 1) := by decide +kernel
theorem dX2_behindWall_19 : decode cX2_behindWall 19 = .ok (.bipush 48, 2) := by decide +kernel
theorem dX2_behindWall_21 : decode cX2_behindWall 21 = .ok (.bipush 57, 2) := by decide +kernel
theorem dX2_behindWall_23 : decode cX2_behindWall 23 = .ok (.invokestatic 23, 3) := by decide +kernel
theorem dX2_behindWall_26 : decode cX2_behindWall 26 = .ok (.ifCond .eq 8, 3) := by decide +kernel
theorem dX2_behindWall_29 : decode cX2_behindWall 29 = .ok (.bipush 11, 2) := by decide +kernel
theorem dX2_behindWall_31 : decode cX2_behindWall 31 = .ok (.goto 5, 3) := by decide +kernel
theorem dX2_behindWall_34 : decode cX2_behindWall 34 = .ok (.bipush 12, 2) := by decide +kernel
theorem dX2_behindWall_36 : decode cX2_behindWall 36 = .ok (.ireturn, 1) := by decide +kernel
theorem dX2_behindEnd_0 : decode cX2_behindEnd 0 = .ok (.iload_n 0, 1) := by decide +kernel
theorem dX2_behindEnd_1 : decode cX2_behindEnd 1 = .ok (.bipush 59, 2) := by decide +kernel
theorem dX2_behindEnd_3 : decode cX2_behindEnd 3 = .ok (.if_icmp .ne 7, 3) := by decide +kernel
theorem dX2_behindEnd_6 : decode cX2_behindEnd 6 = .ok (.iconst 0, 1) := by decide +kernel
theorem dX2_behindEnd_7 : decode cX2_behindEnd 7 = .ok (.goto 5, 3) := by decide +kernel
theorem dX2_behindEnd_10 : decode cX2_behindEnd 10 = .ok (.bipush 12, 2) := by decide +kernel
theorem dX2_behindEnd_12 : decode cX2_behindEnd 12 = .ok (.ireturn, 1) := by decide +kernel
theorem dX3_init_0 : decode cX3_init 0 = .ok (.aload_n 0, 1) := by decide +kernel
theorem dX3_init_1 : decode cX3_init 1 = .ok (.invokespecial 1, 3) := by decide +kernel
theorem dX3_init_4 : decode cX3_init 4 = .ok (.aload_n 0, 1) := by decide +kernel
theorem dX3_init_5 : decode cX3_init 5 = .ok (.new 7, 3) := by decide +kernel
theorem dX3_init_8 : decode cX3_init 8 = .ok (.dup, 1) := by decide +kernel
theorem dX3_init_9 : decode cX3_init 9 = .ok (.invokespecial 9, 3) := by decide +kernel
theorem dX3_init_12 : decode cX3_init 12 = .ok (.putfield 10, 3) := by decide +kernel
theorem dX3_init_15 : decode cX3_init 15 = .ok (.aload_n 0, 1) := by decide +kernel
theorem dX3_init_16 : decode cX3_init 16 = .ok (.new 7, 3) := by decide +kernel
theorem dX3_init_19 : decode cX3_init 19 = .ok (.dup, 1) := by decide +kernel
theorem dX3_init_20 : decode cX3_init 20 = .ok (.invokespecial 9, 3) := by decide +kernel
theorem dX3_init_23 : decode cX3_init 23 = .ok (.putfield 16, 3) := by decide +kernel
theorem dX3_init_26 : decode cX3_init 26 = .ok (.aload_n 0, 1) := by decide +kernel
theorem dX3_init_27 : decode cX3_init 27 = .ok (.iconst 5, 1) := by decide +kernel
theorem dX3_init_28 : decode cX3_init 28 = .ok (.anewarray 7, 3) := by decide +kernel
theorem dX3_init_31 : decode cX3_init 31 = .ok (.putfield 19, 3) := by decide +kernel
theorem dX3_init_34 : decode cX3_init 34 = .ok (.iconst 0, 1) := by decide +kernel
theorem dX3_init_35 : decode cX3_init 35 = .ok (.istore_n 1, 1) := by decide +kernel
theorem dX3_init_36 : decode cX3_init 36 = .ok (.iload_n 1, 1) := by decide +kernel
theorem dX3_init_37 : decode cX3_init 37 = .ok (.iconst 5, 1) := by decide +kernel
theorem dX3_init_38 : decode cX3_init 38 = .ok (.if_icmp .ge 22, 3) := by decide +kernel
theorem dX3_init_41 : decode cX3_init 41 = .ok (.aload_n 0, 1) := by decide +kernel
theorem dX3_init_42 : decode cX3_init 42 = .ok (.getfield 19, 3) := by decide +kernel
theorem dX3_init_45 : decode cX3_init 45 = .ok (.iload_n 1, 1) := by decide +kernel
theorem dX3_init_46 : decode cX3_init 46 = .ok (.new 7, 3) := by decide +kernel
theorem dX3_init_49 : decode cX3_init 49 = .ok (.dup, 1) := by decide +kernel
theorem dX3_init_50 : decode cX3_init 50 = .ok (.invokespecial 9, 3) := by decide +kernel
theorem dX3_init_53 : decode cX3_init 53 = .ok (.aastore, 1) := by decide +kernel
theorem dX3_init_54 : decode cX3_init 54 = .ok (.iinc 1 1, 3) := by decide +kernel
theorem dX3_init_57 : decode cX3_init 57 = .ok (.goto (-21), 3) := by decide +kernel
theorem dX3_init_60 : decode cX3_init 60 = .ok (.aload_n 0, 1) := by decide +kernel
theorem dX3_init_61 : decode cX3_init 61 = .ok (.new 23, 3) := by decide +kernel
theorem dX3_init_64 : decode cX3_init 64 = .ok (.dup, 1) := by decide +kernel
theorem dX3_init_65 : decode cX3_init 65 = .ok (.invokespecial 25, 3) := by decide +kernel
theorem dX3_init_68 : decode cX3_init 68 = .ok (.putfield 26, 3) := by decide +kernel
theorem dX3_init_71 : decode cX3_init 71 = .ok (.aload_n 0, 1) := by decide +kernel
theorem dX3_init_72 : decode cX3_init 72 = .ok (.new 30, 3) := by decide +kernel
theorem dX3_init_75 : decode cX3_init 75 = .ok (.dup, 1) := by decide +kernel
theorem dX3_init_76 : decode cX3_init 76 = .ok (.invokespecial 32, 3) := by decide +kernel
theorem dX3_init_79 : decode cX3_init 79 = .ok (.putfield 33, 3) := by decide +kernel
theorem dX3_init_82 : decode cX3_init 82 = .ok (.aload_n 0, 1) := by decide +kernel
theorem dX3_init_83 : decode cX3_init 83 = .ok (.iconst 0, 1) := by decide +kernel
theorem dX3_init_84 : decode cX3_init 84 = .ok (.putfield 37, 3) := by decide +kernel
theorem dX3_init_87 : decode cX3_init 87 = .ok (.aload_n 0, 1) := by decide +kernel
theorem dX3_init_88 : decode cX3_init 88 = .ok (.iconst 0, 1) := by decide +kernel
theorem dX3_init_89 : decode cX3_init 89 = .ok (.putfield 41, 3) := by decide +kernel
theorem dX3_init_92 : decode cX3_init 92 = .ok (.return_, 1) := by decide +kernel
theorem dX3_addCar_0 : decode cX3_addCar 0 = .ok (.aload_n 0, 1) := by decide +kernel
theorem dX3_addCar_1 : decode cX3_addCar 1 = .ok (.getfield 10, 3) := by decide +kernel
theorem dX3_addCar_4 : decode cX3_addCar 4 = .ok (.iload_n 1, 1) := by decide +kernel
theorem dX3_addCar_5 : decode cX3_addCar 5 = .ok (.iload_n 2, 1) := by decide +kernel
theorem dX3_addCar_6 : decode cX3_addCar 6 = .ok (.iload_n 3, 1) := by decide +kernel
theorem dX3_addCar_7 : decode cX3_addCar 7 = .ok (.invokevirtual 45, 3) := by decide +kernel
theorem dX3_addCar_10 : decode cX3_addCar 10 = .ok (.invokestatic 49, 3) := by decide +kernel
theorem dX3_addCar_13 : decode cX3_addCar 13 = .ok (.aload_n 0, 1) := by decide +kernel
theorem dX3_addCar_14 : decode cX3_addCar 14 = .ok (.invokevirtual 53, 3) := by decide +kernel
theorem dX3_addCar_17 : decode cX3_addCar 17 = .ok (.aload_n 0, 1) := by decide +kernel
theorem dX3_addCar_18 : decode cX3_addCar 18 = .ok (.getfield 10, 3) := by decide +kernel
theorem dX3_addCar_21 : decode cX3_addCar 21 = .ok (.iload_n 1, 1) := by decide +kernel
theorem dX3_addCar_22 : decode cX3_addCar 22 = .ok (.iload_n 2, 1) := by decide +kernel
theorem dX3_addCar_23 : decode cX3_addCar 23 = .ok (.iload_n 3, 1) := by decide +kernel
theorem dX3_addCar_24 : decode cX3_addCar 24 = .ok (.invokevirtual 56, 3) := by decide +kernel
theorem dX3_addCar_27 : decode cX3_addCar 27 = .ok (.ireturn, 1) := by decide +kernel
theorem dX3_dropLast_0 : decode cX3_dropLast 0 = .ok (.aload_n 0, 1) := by decide +kernel
theorem dX3_dropLast_1 : decode cX3_dropLast 1 = .ok (.getfield 10, 3) := by decide +kernel
theorem dX3_dropLast_4 : decode cX3_dropLast 4 = .ok (.getfield 59, 3) := by decide +kernel
theorem dX3_dropLast_7 : decode cX3_dropLast 7 = .ok (.ifCond .ne 13, 3) := by decide +kernel
theorem dX3_dropLast_10 : decode cX3_dropLast 10 = .ok (.new 62, 3) := by decide +kernel
theorem dX3_dropLast_13 : decode cX3_dropLast 13 = .ok (.dup, 1) := by decide +kernel
theorem dX3_dropLast_14 : decode cX3_dropLast 14 = .ok (.ldc 64, 2) := by decide +kernel
theorem dX3_dropLast_16 : decode cX3_dropLast 16 = .ok (.invokespecial 66, 3) := by decide +kernel
theorem dX3_dropLast_19 : decode cX3_dropLast 19 = .ok (.athrow, 1) := by decide +kernel
theorem dX3_dropLast_20 : decode cX3_dropLast 20 = .ok (.aload_n 0, 1) := by decide +kernel
theorem dX3_dropLast_21 : decode cX3_dropLast 21 = .ok (.invokevirtual 53, 3) := by decide +kernel
theorem dX3_dropLast_24 : decode cX3_dropLast 24 = .ok (.aload_n 0, 1) := by decide +kernel
theorem dX3_dropLast_25 : decode cX3_dropLast 25 = .ok (.getfield 10, 3) := by decide +kernel
theorem dX3_dropLast_28 : decode cX3_dropLast 28 = .ok (.invokevirtual 69, 3) := by decide +kernel
theorem dX3_dropLast_31 : decode cX3_dropLast 31 = .ok (.ireturn, 1) := by decide +kernel
theorem dX3_toggleWall_0 : decode cX3_toggleWall 0 = .ok (.aload_n 0, 1) := by decide +kernel
theorem dX3_toggleWall_1 : decode cX3_toggleWall 1 = .ok (.getfield 10, 3) := by decide +kernel
theorem dX3_toggleWall_4 : decode cX3_toggleWall 4 = .ok (.iload_n 1, 1) := by decide +kernel
theorem dX3_toggleWall_5 : decode cX3_toggleWall 5 = .ok (.invokevirtual 73, 3) := by decide +kernel
theorem dX3_toggleWall_8 : decode cX3_toggleWall 8 = .ok (.invokestatic 49, 3) := by decide +kernel
theorem dX3_toggleWall_11 : decode cX3_toggleWall 11 = .ok (.aload_n 0, 1) := by decide +kernel
theorem dX3_toggleWall_12 : decode cX3_toggleWall 12 = .ok (.invokevirtual 53, 3) := by decide +kernel
theorem dX3_toggleWall_15 : decode cX3_toggleWall 15 = .ok (.aload_n 0, 1) := by decide +kernel
theorem dX3_toggleWall_16 : decode cX3_toggleWall 16 = .ok (.getfield 10, 3) := by decide +kernel
theorem dX3_toggleWall_19 : decode cX3_toggleWall 19 = .ok (.iload_n 1, 1) := by decide +kernel
theorem dX3_toggleWall_20 : decode cX3_toggleWall 20 = .ok (.invokevirtual 77, 3) := by decide +kernel
theorem dX3_toggleWall_23 : decode cX3_toggleWall 23 = .ok (.ireturn, 1) := by decide +kernel
theorem dX3_slide_0 : decode cX3_slide 0 = .ok (.aload_n 0, 1) := by decide +kernel
theorem dX3_slide_1 : decode cX3_slide 1 = .ok (.getfield 10, 3) := by decide +kernel
theorem dX3_slide_4 : decode cX3_slide 4 = .ok (.iload_n 1, 1) := by decide +kernel
theorem dX3_slide_5 : decode cX3_slide 5 = .ok (.iload_n 2, 1) := by decide +kernel
theorem dX3_slide_6 : decode cX3_slide 6 = .ok (.invokevirtual 81, 3) := by decide +kernel
theorem dX3_slide_9 : decode cX3_slide 9 = .ok (.invokestatic 49, 3) := by decide +kernel
theorem dX3_slide_12 : decode cX3_slide 12 = .ok (.aload_n 0, 1) := by decide +kernel
theorem dX3_slide_13 : decode cX3_slide 13 = .ok (.getfield 10, 3) := by decide +kernel
theorem dX3_slide_16 : decode cX3_slide 16 = .ok (.getfield 85, 3) := by decide +kernel
theorem dX3_slide_19 : decode cX3_slide 19 = .ok (.bipush 60, 2) := by decide +kernel
theorem dX3_slide_21 : decode cX3_slide 21 = .ok (.if_icmp .lt 13, 3) := by decide +kernel
theorem dX3_slide_24 : decode cX3_slide 24 = .ok (.new 62, 3) := by decide +kernel
theorem dX3_slide_27 : decode cX3_slide 27 = .ok (.dup, 1) := by decide +kernel
theorem dX3_slide_28 : decode cX3_slide 28 = .ok (.ldc 88, 2) := by decide +kernel
theorem dX3_slide_30 : decode cX3_slide 30 = .ok (.invokespecial 66, 3) := by decide +kernel
theorem dX3_slide_33 : decode cX3_slide 33 = .ok (.athrow, 1) := by decide +kernel
theorem dX3_slide_34 : decode cX3_slide 34 = .ok (.aload_n 0, 1) := by decide +kernel
theorem dX3_slide_35 : decode cX3_slide 35 = .ok (.invokevirtual 53, 3) := by decide +kernel
theorem dX3_slide_38 : decode cX3_slide 38 = .ok (.aload_n 0, 1) := by decide +kernel
theorem dX3_slide_39 : decode cX3_slide 39 = .ok (.getfield 10, 3) := by decide +kernel
theorem dX3_slide_42 : decode cX3_slide 42 = .ok (.iload_n 1, 1) := by decide +kernel
theorem dX3_slide_43 : decode cX3_slide 43 = .ok (.iload_n 2, 1) := by decide +kernel
theorem dX3_slide_44 : decode cX3_slide 44 = .ok (.invokevirtual 90, 3) := by decide +kernel
theorem dX3_slide_47 : decode cX3_slide 47 = .ok (.ireturn, 1) := by decide +kernel
theorem dX3_takeBack_0 : decode cX3_takeBack 0 = .ok (.aload_n 0, 1) := by decide +kernel
theorem dX3_takeBack_1 : decode cX3_takeBack 1 = .ok (.getfield 10, 3) := by decide +kernel
theorem dX3_takeBack_4 : decode cX3_takeBack 4 = .ok (.getfield 85, 3) := by decide +kernel
theorem dX3_takeBack_7 : decode cX3_takeBack 7 = .ok (.ifCond .ne 13, 3) := by decide +kernel
theorem dX3_takeBack_10 : decode cX3_takeBack 10 = .ok (.new 62, 3) := by decide +kernel
theorem dX3_takeBack_13 : decode cX3_takeBack 13 = .ok (.dup, 1) := by decide +kernel
theorem dX3_takeBack_14 : decode cX3_takeBack 14 = .ok (.ldc 93, 2) := by decide +kernel
theorem dX3_takeBack_16 : decode cX3_takeBack 16 = .ok (.invokespecial 66, 3) := by decide +kernel
theorem dX3_takeBack_19 : decode cX3_takeBack 19 = .ok (.athrow, 1) := by decide +kernel
theorem dX3_takeBack_20 : decode cX3_takeBack 20 = .ok (.aload_n 0, 1) := by decide +kernel
theorem dX3_takeBack_21 : decode cX3_takeBack 21 = .ok (.invokevirtual 53, 3) := by decide +kernel
theorem dX3_takeBack_24 : decode cX3_takeBack 24 = .ok (.aload_n 0, 1) := by decide +kernel
theorem dX3_takeBack_25 : decode cX3_takeBack 25 = .ok (.getfield 10, 3) := by decide +kernel
theorem dX3_takeBack_28 : decode cX3_takeBack 28 = .ok (.invokevirtual 95, 3) := by decide +kernel
theorem dX3_takeBack_31 : decode cX3_takeBack 31 = .ok (.ireturn, 1) := by decide +kernel
theorem dX3_rewind_0 : decode cX3_rewind 0 = .ok (.aload_n 0, 1) := by decide +kernel
theorem dX3_rewind_1 : decode cX3_rewind 1 = .ok (.invokevirtual 53, 3) := by decide +kernel
theorem dX3_rewind_4 : decode cX3_rewind 4 = .ok (.iconst 0, 1) := by decide +kernel
theorem dX3_rewind_5 : decode cX3_rewind 5 = .ok (.istore_n 1, 1) := by decide +kernel
theorem dX3_rewind_6 : decode cX3_rewind 6 = .ok (.iload_n 1, 1) := by decide +kernel
theorem dX3_rewind_7 : decode cX3_rewind 7 = .ok (.bipush 60, 2) := by decide +kernel
theorem dX3_rewind_9 : decode cX3_rewind 9 = .ok (.if_icmp .ge 27, 3) := by decide +kernel
theorem dX3_rewind_12 : decode cX3_rewind 12 = .ok (.aload_n 0, 1) := by decide +kernel
theorem dX3_rewind_13 : decode cX3_rewind 13 = .ok (.getfield 10, 3) := by decide +kernel
theorem dX3_rewind_16 : decode cX3_rewind 16 = .ok (.getfield 85, 3) := by decide +kernel
theorem dX3_rewind_19 : decode cX3_rewind 19 = .ok (.ifCond .le 17, 3) := by decide +kernel
theorem dX3_rewind_22 : decode cX3_rewind 22 = .ok (.aload_n 0, 1) := by decide +kernel
theorem dX3_rewind_23 : decode cX3_rewind 23 = .ok (.getfield 10, 3) := by decide +kernel
theorem dX3_rewind_26 : decode cX3_rewind 26 = .ok (.invokevirtual 95, 3) := by decide +kernel
theorem dX3_rewind_29 : decode cX3_rewind 29 = .ok (.pop, 1) := by decide +kernel
theorem dX3_rewind_30 : decode cX3_rewind 30 = .ok (.iinc 1 1, 3) := by decide +kernel
theorem dX3_rewind_33 : decode cX3_rewind 33 = .ok (.goto (-27), 3) := by decide +kernel
theorem dX3_rewind_36 : decode cX3_rewind 36 = .ok (.iload_n 1, 1) := by decide +kernel
theorem dX3_rewind_37 : decode cX3_rewind 37 = .ok (.ireturn, 1) := by decide +kernel
theorem dX3_driveOut_0 : decode cX3_driveOut 0 = .ok (.aload_n 0, 1) := by decide +kernel
theorem dX3_driveOut_1 : decode cX3_driveOut 1 = .ok (.invokevirtual 98, 3) := by decide +kernel
theorem dX3_driveOut_4 : decode cX3_driveOut 4 = .ok (.istore_n 1, 1) := by decide +kernel
theorem dX3_driveOut_5 : decode cX3_driveOut 5 = .ok (.iload_n 1, 1) := by decide +kernel
theorem dX3_driveOut_6 : decode cX3_driveOut 6 = .ok (.ifCond .ge 13, 3) := by decide +kernel
theorem dX3_driveOut_9 : decode cX3_driveOut 9 = .ok (.new 62, 3) := by decide +kernel
theorem dX3_driveOut_12 : decode cX3_driveOut 12 = .ok (.dup, 1) := by decide +kernel
theorem dX3_driveOut_13 : decode cX3_driveOut 13 = .ok (.ldc 101, 2) := by decide +kernel
theorem dX3_driveOut_15 : decode cX3_driveOut 15 = .ok (.invokespecial 66, 3) := by decide +kernel
theorem dX3_driveOut_18 : decode cX3_driveOut 18 = .ok (.athrow, 1) := by decide +kernel
theorem dX3_driveOut_19 : decode cX3_driveOut 19 = .ok (.aload_n 0, 1) := by decide +kernel
theorem dX3_driveOut_20 : decode cX3_driveOut 20 = .ok (.invokevirtual 53, 3) := by decide +kernel
theorem dX3_driveOut_23 : decode cX3_driveOut 23 = .ok (.aload_n 0, 1) := by decide +kernel
theorem dX3_driveOut_24 : decode cX3_driveOut 24 = .ok (.iload_n 1, 1) := by decide +kernel
theorem dX3_driveOut_25 : decode cX3_driveOut 25 = .ok (.invokevirtual 103, 3) := by decide +kernel
theorem dX3_driveOut_28 : decode cX3_driveOut 28 = .ok (.pop, 1) := by decide +kernel
theorem dX3_driveOut_29 : decode cX3_driveOut 29 = .ok (.iload_n 1, 1) := by decide +kernel
theorem dX3_driveOut_30 : decode cX3_driveOut 30 = .ok (.ireturn, 1) := by decide +kernel
theorem dX3_append_0 : decode cX3_append 0 = .ok (.iload_n 1, 1) := by decide +kernel
theorem dX3_append_1 : decode cX3_append 1 = .ok (.bipush 33, 2) := by decide +kernel
theorem dX3_append_3 : decode cX3_append 3 = .ok (.if_icmp .lt 9, 3) := by decide +kernel
theorem dX3_append_6 : decode cX3_append 6 = .ok (.iload_n 1, 1) := by decide +kernel
theorem dX3_append_7 : decode cX3_append 7 = .ok (.bipush 126, 2) := by decide +kernel
theorem dX3_append_9 : decode cX3_append 9 = .ok (.if_icmp .le 13, 3) := by decide +kernel
theorem dX3_append_12 : decode cX3_append 12 = .ok (.new 106, 3) := by decide +kernel
theorem dX3_append_15 : decode cX3_append 15 = .ok (.dup, 1) := by decide +kernel
theorem dX3_append_16 : decode cX3_append 16 = .ok (.ldc 108, 2) := by decide +kernel
theorem dX3_append_18 : decode cX3_append 18 = .ok (.invokespecial 110, 3) := by decide +kernel
theorem dX3_append_21 : decode cX3_append 21 = .ok (.athrow, 1) := by decide +kernel
theorem dX3_append_22 : decode cX3_append 22 = .ok (.aload_n 0, 1) := by decide +kernel
theorem dX3_append_23 : decode cX3_append 23 = .ok (.getfield 33, 3) := by decide +kernel
theorem dX3_append_26 : decode cX3_append 26 = .ok (.getfield 111, 3) := by decide +kernel
theorem dX3_append_29 : decode cX3_append 29 = .ok (.bipush 60, 2) := by decide +kernel
theorem dX3_append_31 : decode cX3_append 31 = .ok (.if_icmp .lt 13, 3) := by decide +kernel
theorem dX3_append_34 : decode cX3_append 34 = .ok (.new 62, 3) := by decide +kernel
theorem dX3_append_37 : decode cX3_append 37 = .ok (.dup, 1) := by decide +kernel
theorem dX3_append_38 : decode cX3_append 38 = .ok (.ldc 114, 2) := by decide +kernel
theorem dX3_append_40 : decode cX3_append 40 = .ok (.invokespecial 66, 3) := by decide +kernel
theorem dX3_append_43 : decode cX3_append 43 = .ok (.athrow, 1) := by decide +kernel
theorem dX3_append_44 : decode cX3_append 44 = .ok (.aload_n 0, 1) := by decide +kernel
theorem dX3_append_45 : decode cX3_append 45 = .ok (.getfield 33, 3) := by decide +kernel
theorem dX3_append_48 : decode cX3_append 48 = .ok (.iload_n 1, 1) := by decide +kernel
theorem dX3_append_49 : decode cX3_append 49 = .ok (.invokevirtual 116, 3) := by decide +kernel
theorem dX3_append_52 : decode cX3_append 52 = .ok (.ireturn, 1) := by decide +kernel
theorem dX3_work_0 : decode cX3_work 0 = .ok (.aload_n 0, 1) := by decide +kernel
theorem dX3_work_1 : decode cX3_work 1 = .ok (.getfield 33, 3) := by decide +kernel
theorem dX3_work_4 : decode cX3_work 4 = .ok (.invokevirtual 125, 3) := by decide +kernel
theorem dX3_work_7 : decode cX3_work 7 = .ok (.ifCond .ne 13, 3) := by decide +kernel
theorem dX3_work_10 : decode cX3_work 10 = .ok (.new 106, 3) := by decide +kernel
theorem dX3_work_13 : decode cX3_work 13 = .ok (.dup, 1) := by decide +kernel
theorem dX3_work_14 : decode cX3_work 14 = .ok (.ldc 129, 2) := by decide +kernel
theorem dX3_work_16 : decode cX3_work 16 = .ok (.invokespecial 110, 3) := by decide +kernel
theorem dX3_work_19 : decode cX3_work 19 = .ok (.athrow, 1) := by decide +kernel
theorem dX3_work_20 : decode cX3_work 20 = .ok (.aload_n 0, 1) := by decide +kernel
theorem dX3_work_21 : decode cX3_work 21 = .ok (.invokevirtual 53, 3) := by decide +kernel
theorem dX3_work_24 : decode cX3_work 24 = .ok (.iconst 0, 1) := by decide +kernel
theorem dX3_work_25 : decode cX3_work 25 = .ok (.istore_n 1, 1) := by decide +kernel
theorem dX3_work_26 : decode cX3_work 26 = .ok (.iconst 0, 1) := by decide +kernel
theorem dX3_work_27 : decode cX3_work 27 = .ok (.istore_n 2, 1) := by decide +kernel
theorem dX3_work_28 : decode cX3_work 28 = .ok (.iconst 0, 1) := by decide +kernel
theorem dX3_work_29 : decode cX3_work 29 = .ok (.istore_n 3, 1) := by decide +kernel
theorem dX3_work_30 : decode cX3_work 30 = .ok (.iconst 0, 1) := by decide +kernel
theorem dX3_work_31 : decode cX3_work 31 = .ok (.istore 4, 2) := by decide +kernel
theorem dX3_work_33 : decode cX3_work 33 = .ok (.iload 4, 2) := by decide +kernel
theorem dX3_work_35 : decode cX3_work 35 = .ok (.bipush 60, 2) := by decide +kernel
theorem dX3_work_37 : decode cX3_work 37 = .ok (.if_icmp .ge 49, 3) := by decide +kernel
theorem dX3_work_40 : decode cX3_work 40 = .ok (.iload_n 2, 1) := by decide +kernel
theorem dX3_work_41 : decode cX3_work 41 = .ok (.aload_n 0, 1) := by decide +kernel
theorem dX3_work_42 : decode cX3_work 42 = .ok (.getfield 33, 3) := by decide +kernel
theorem dX3_work_45 : decode cX3_work 45 = .ok (.getfield 111, 3) := by decide +kernel
theorem dX3_work_48 : decode cX3_work 48 = .ok (.if_icmp .ge 38, 3) := by decide +kernel
theorem dX3_work_51 : decode cX3_work 51 = .ok (.iload_n 3, 1) := by decide +kernel
theorem dX3_work_52 : decode cX3_work 52 = .ok (.ifCond .ne 34, 3) := by decide +kernel
theorem dX3_work_55 : decode cX3_work 55 = .ok (.aload_n 0, 1) := by decide +kernel
theorem dX3_work_56 : decode cX3_work 56 = .ok (.iload_n 2, 1) := by decide +kernel
theorem dX3_work_57 : decode cX3_work 57 = .ok (.invokevirtual 131, 3) := by decide +kernel
theorem dX3_work_60 : decode cX3_work 60 = .ok (.ifCond .eq 18, 3) := by decide +kernel
theorem dX3_work_63 : decode cX3_work 63 = .ok (.iinc 1 1, 3) := by decide +kernel
theorem dX3_work_66 : decode cX3_work 66 = .ok (.aload_n 0, 1) := by decide +kernel
theorem dX3_work_67 : decode cX3_work 67 = .ok (.getfield 33, 3) := by decide +kernel
theorem dX3_work_70 : decode cX3_work 70 = .ok (.iload_n 2, 1) := by decide +kernel
theorem dX3_work_71 : decode cX3_work 71 = .ok (.invokevirtual 134, 3) := by decide +kernel
theorem dX3_work_74 : decode cX3_work 74 = .ok (.istore_n 2, 1) := by decide +kernel
theorem dX3_work_75 : decode cX3_work 75 = .ok (.goto 5, 3) := by decide +kernel
theorem dX3_work_78 : decode cX3_work 78 = .ok (.iconst 1, 1) := by decide +kernel
theorem dX3_work_79 : decode cX3_work 79 = .ok (.istore_n 3, 1) := by decide +kernel
theorem dX3_work_80 : decode cX3_work 80 = .ok (.iinc 4 1, 3) := by decide +kernel
theorem dX3_work_83 : decode cX3_work 83 = .ok (.goto (-50), 3) := by decide +kernel
theorem dX3_work_86 : decode cX3_work 86 = .ok (.aload_n 0, 1) := by decide +kernel
theorem dX3_work_87 : decode cX3_work 87 = .ok (.getfield 10, 3) := by decide +kernel
theorem dX3_work_90 : decode cX3_work 90 = .ok (.iload_n 3, 1) := by decide +kernel
theorem dX3_work_91 : decode cX3_work 91 = .ok (.putfield 137, 3) := by decide +kernel
theorem dX3_work_94 : decode cX3_work 94 = .ok (.aload_n 0, 1) := by decide +kernel
theorem dX3_work_95 : decode cX3_work 95 = .ok (.getfield 10, 3) := by decide +kernel
theorem dX3_work_98 : decode cX3_work 98 = .ok (.iload_n 3, 1) := by decide +kernel
theorem dX3_work_99 : decode cX3_work 99 = .ok (.ifCond .eq 7, 3) := by decide +kernel
theorem dX3_work_102 : decode cX3_work 102 = .ok (.iload_n 1, 1) := by decide +kernel
theorem dX3_work_103 : decode cX3_work 103 = .ok (.goto 4, 3) := by decide +kernel
theorem dX3_work_106 : decode cX3_work 106 = .ok (.iconst 0, 1) := by decide +kernel
theorem dX3_work_107 : decode cX3_work 107 = .ok (.putfield 140, 3) := by decide +kernel
theorem dX3_work_110 : decode cX3_work 110 = .ok (.aload_n 0, 1) := by decide +kernel
theorem dX3_work_111 : decode cX3_work 111 = .ok (.getfield 33, 3) := by decide +kernel
theorem dX3_work_114 : decode cX3_work 114 = .ok (.invokevirtual 119, 3) := by decide +kernel
theorem dX3_work_117 : decode cX3_work 117 = .ok (.pop, 1) := by decide +kernel
theorem dX3_work_118 : decode cX3_work 118 = .ok (.iload_n 1, 1) := by decide +kernel
theorem dX3_work_119 : decode cX3_work 119 = .ok (.ireturn, 1) := by decide +kernel
theorem dX3_stoppedPart_0 : decode cX3_stoppedPart 0 = .ok (.aload_n 0, 1) := by decide +kernel
theorem dX3_stoppedPart_1 : decode cX3_stoppedPart 1 = .ok (.getfield 10, 3) := by decide +kernel
theorem dX3_stoppedPart_4 : decode cX3_stoppedPart 4 = .ok (.getfield 137, 3) := by decide +kernel
theorem dX3_stoppedPart_7 : decode cX3_stoppedPart 7 = .ok (.ifCond .ne 13, 3) := by decide +kernel
theorem dX3_stoppedPart_10 : decode cX3_stoppedPart 10 = .ok (.new 62, 3) := by decide +kernel
theorem dX3_stoppedPart_13 : decode cX3_stoppedPart 13 = .ok (.dup, 1) := by decide +kernel
theorem dX3_stoppedPart_14 : decode cX3_stoppedPart 14 = .ok (.ldc 143, 2) := by decide +kernel
theorem dX3_stoppedPart_16 : decode cX3_stoppedPart 16 = .ok (.invokespecial 66, 3) := by decide +kernel
theorem dX3_stoppedPart_19 : decode cX3_stoppedPart 19 = .ok (.athrow, 1) := by decide +kernel
theorem dX3_stoppedPart_20 : decode cX3_stoppedPart 20 = .ok (.aload_n 0, 1) := by decide +kernel
theorem dX3_stoppedPart_21 : decode cX3_stoppedPart 21 = .ok (.getfield 10, 3) := by decide +kernel
theorem dX3_stoppedPart_24 : decode cX3_stoppedPart 24 = .ok (.getfield 140, 3) := by decide +kernel
theorem dX3_stoppedPart_27 : decode cX3_stoppedPart 27 = .ok (.ireturn, 1) := by decide +kernel
theorem dX3_undo_0 : decode cX3_undo 0 = .ok (.aload_n 0, 1) := by decide +kernel
theorem dX3_undo_1 : decode cX3_undo 1 = .ok (.getfield 37, 3) := by decide +kernel
theorem dX3_undo_4 : decode cX3_undo 4 = .ok (.ifCond .le 11, 3) := by decide +kernel
theorem dX3_undo_7 : decode cX3_undo 7 = .ok (.aload_n 0, 1) := by decide +kernel
theorem dX3_undo_8 : decode cX3_undo 8 = .ok (.getfield 37, 3) := by decide +kernel
theorem dX3_undo_11 : decode cX3_undo 11 = .ok (.iconst 5, 1) := by decide +kernel
theorem dX3_undo_12 : decode cX3_undo 12 = .ok (.if_icmp .le 13, 3) := by decide +kernel
theorem dX3_undo_15 : decode cX3_undo 15 = .ok (.new 62, 3) := by decide +kernel
theorem dX3_undo_18 : decode cX3_undo 18 = .ok (.dup, 1) := by decide +kernel
theorem dX3_undo_19 : decode cX3_undo 19 = .ok (.ldc 145, 2) := by decide +kernel
theorem dX3_undo_21 : decode cX3_undo 21 = .ok (.invokespecial 66, 3) := by decide +kernel
theorem dX3_undo_24 : decode cX3_undo 24 = .ok (.athrow, 1) := by decide +kernel
theorem dX3_undo_25 : decode cX3_undo 25 = .ok (.aload_n 0, 1) := by decide +kernel
theorem dX3_undo_26 : decode cX3_undo 26 = .ok (.dup, 1) := by decide +kernel
theorem dX3_undo_27 : decode cX3_undo 27 = .ok (.getfield 37, 3) := by decide +kernel
theorem dX3_undo_30 : decode cX3_undo 30 = .ok (.iconst 1, 1) := by decide +kernel
theorem dX3_undo_31 : decode cX3_undo 31 = .ok (.isub, 1) := by decide +kernel
theorem dX3_undo_32 : decode cX3_undo 32 = .ok (.putfield 37, 3) := by decide +kernel
theorem dX3_undo_35 : decode cX3_undo 35 = .ok (.aload_n 0, 1) := by decide +kernel
theorem dX3_undo_36 : decode cX3_undo 36 = .ok (.getfield 19, 3) := by decide +kernel
theorem dX3_undo_39 : decode cX3_undo 39 = .ok (.aload_n 0, 1) := by decide +kernel
theorem dX3_undo_40 : decode cX3_undo 40 = .ok (.getfield 37, 3) := by decide +kernel
theorem dX3_undo_43 : decode cX3_undo 43 = .ok (.aaload, 1) := by decide +kernel
theorem dX3_undo_44 : decode cX3_undo 44 = .ok (.aload_n 0, 1) := by decide +kernel
theorem dX3_undo_45 : decode cX3_undo 45 = .ok (.getfield 10, 3) := by decide +kernel
theorem dX3_undo_48 : decode cX3_undo 48 = .ok (.invokestatic 147, 3) := by decide +kernel
theorem dX3_undo_51 : decode cX3_undo 51 = .ok (.aload_n 0, 1) := by decide +kernel
theorem dX3_undo_52 : decode cX3_undo 52 = .ok (.getfield 37, 3) := by decide +kernel
theorem dX3_undo_55 : decode cX3_undo 55 = .ok (.ireturn, 1) := by decide +kernel
theorem dX3_keep_0 : decode cX3_keep 0 = .ok (.aload_n 0, 1) := by decide +kernel
theorem dX3_keep_1 : decode cX3_keep 1 = .ok (.getfield 10, 3) := by decide +kernel
theorem dX3_keep_4 : decode cX3_keep 4 = .ok (.aload_n 0, 1) := by decide +kernel
theorem dX3_keep_5 : decode cX3_keep 5 = .ok (.getfield 16, 3) := by decide +kernel
theorem dX3_keep_8 : decode cX3_keep 8 = .ok (.invokestatic 147, 3) := by decide +kernel
theorem dX3_keep_11 : decode cX3_keep 11 = .ok (.aload_n 0, 1) := by decide +kernel
theorem dX3_keep_12 : decode cX3_keep 12 = .ok (.iconst 1, 1) := by decide +kernel
theorem dX3_keep_13 : decode cX3_keep 13 = .ok (.putfield 41, 3) := by decide +kernel
theorem dX3_keep_16 : decode cX3_keep 16 = .ok (.aload_n 0, 1) := by decide +kernel
theorem dX3_keep_17 : decode cX3_keep 17 = .ok (.getfield 10, 3) := by decide +kernel
theorem dX3_keep_20 : decode cX3_keep 20 = .ok (.getfield 59, 3) := by decide +kernel
theorem dX3_keep_23 : decode cX3_keep 23 = .ok (.ireturn, 1) := by decide +kernel
theorem dX3_restore_0 : decode cX3_restore 0 = .ok (.aload_n 0, 1) := by decide +kernel
theorem dX3_restore_1 : decode cX3_restore 1 = .ok (.getfield 41, 3) := by decide +kernel
theorem dX3_restore_4 : decode cX3_restore 4 = .ok (.ifCond .ne 13, 3) := by decide +kernel
theorem dX3_restore_7 : decode cX3_restore 7 = .ok (.new 62, 3) := by decide +kernel
theorem dX3_restore_10 : decode cX3_restore 10 = .ok (.dup, 1) := by decide +kernel
theorem dX3_restore_11 : decode cX3_restore 11 = .ok (.ldc 151, 2) := by decide +kernel
theorem dX3_restore_13 : decode cX3_restore 13 = .ok (.invokespecial 66, 3) := by decide +kernel
theorem dX3_restore_16 : decode cX3_restore 16 = .ok (.athrow, 1) := by decide +kernel
theorem dX3_restore_17 : decode cX3_restore 17 = .ok (.aload_n 0, 1) := by decide +kernel
theorem dX3_restore_18 : decode cX3_restore 18 = .ok (.invokevirtual 53, 3) := by decide +kernel
theorem dX3_restore_21 : decode cX3_restore 21 = .ok (.aload_n 0, 1) := by decide +kernel
theorem dX3_restore_22 : decode cX3_restore 22 = .ok (.getfield 16, 3) := by decide +kernel
theorem dX3_restore_25 : decode cX3_restore 25 = .ok (.aload_n 0, 1) := by decide +kernel
theorem dX3_restore_26 : decode cX3_restore 26 = .ok (.getfield 10, 3) := by decide +kernel
theorem dX3_restore_29 : decode cX3_restore 29 = .ok (.invokestatic 147, 3) := by decide +kernel
theorem dX3_restore_32 : decode cX3_restore 32 = .ok (.aload_n 0, 1) := by decide +kernel
theorem dX3_restore_33 : decode cX3_restore 33 = .ok (.getfield 10, 3) := by decide +kernel
theorem dX3_restore_36 : decode cX3_restore 36 = .ok (.getfield 59, 3) := by decide +kernel
theorem dX3_restore_39 : decode cX3_restore 39 = .ok (.ireturn, 1) := by decide +kernel
theorem dX3_savedStates_0 : decode cX3_savedStates 0 = .ok (.aload_n 0, 1) := by decide +kernel
theorem dX3_savedStates_1 : decode cX3_savedStates 1 = .ok (.getfield 37, 3) := by decide +kernel
theorem dX3_savedStates_4 : decode cX3_savedStates 4 = .ok (.ireturn, 1) := by decide +kernel
theorem dX3_cars_0 : decode cX3_cars 0 = .ok (.aload_n 0, 1) := by decide +kernel
theorem dX3_cars_1 : decode cX3_cars 1 = .ok (.getfield 10, 3) := by decide +kernel
theorem dX3_cars_4 : decode cX3_cars 4 = .ok (.getfield 59, 3) := by decide +kernel
theorem dX3_cars_7 : decode cX3_cars 7 = .ok (.ireturn, 1) := by decide +kernel
theorem dX3_walls_0 : decode cX3_walls 0 = .ok (.aload_n 0, 1) := by decide +kernel
theorem dX3_walls_1 : decode cX3_walls 1 = .ok (.getfield 10, 3) := by decide +kernel
theorem dX3_walls_4 : decode cX3_walls 4 = .ok (.getfield 153, 3) := by decide +kernel
theorem dX3_walls_7 : decode cX3_walls 7 = .ok (.invokestatic 156, 3) := by decide +kernel
theorem dX3_walls_10 : decode cX3_walls 10 = .ok (.ireturn, 1) := by decide +kernel
theorem dX3_laneOf_0 : decode cX3_laneOf 0 = .ok (.aload_n 0, 1) := by decide +kernel
theorem dX3_laneOf_1 : decode cX3_laneOf 1 = .ok (.getfield 10, 3) := by decide +kernel
theorem dX3_laneOf_4 : decode cX3_laneOf 4 = .ok (.iload_n 1, 1) := by decide +kernel
theorem dX3_laneOf_5 : decode cX3_laneOf 5 = .ok (.invokevirtual 161, 3) := by decide +kernel
theorem dX3_laneOf_8 : decode cX3_laneOf 8 = .ok (.ifCond .ne 13, 3) := by decide +kernel
theorem dX3_laneOf_11 : decode cX3_laneOf 11 = .ok (.new 164, 3) := by decide +kernel
theorem dX3_laneOf_14 : decode cX3_laneOf 14 = .ok (.dup, 1) := by decide +kernel
theorem dX3_laneOf_15 : decode cX3_laneOf 15 = .ok (.ldc 166, 2) := by decide +kernel
theorem dX3_laneOf_17 : decode cX3_laneOf 17 = .ok (.invokespecial 168, 3) := by decide +kernel
theorem dX3_laneOf_20 : decode cX3_laneOf 20 = .ok (.athrow, 1) := by decide +kernel
theorem dX3_laneOf_21 : decode cX3_laneOf 21 = .ok (.aload_n 0, 1) := by decide +kernel
theorem dX3_laneOf_22 : decode cX3_laneOf 22 = .ok (.getfield 10, 3) := by decide +kernel
theorem dX3_laneOf_25 : decode cX3_laneOf 25 = .ok (.getfield 169, 3) := by decide +kernel
theorem dX3_laneOf_28 : decode cX3_laneOf 28 = .ok (.iload_n 1, 1) := by decide +kernel
theorem dX3_laneOf_29 : decode cX3_laneOf 29 = .ok (.iaload, 1) := by decide +kernel
theorem dX3_laneOf_30 : decode cX3_laneOf 30 = .ok (.ireturn, 1) := by decide +kernel
theorem dX3_placeOf_0 : decode cX3_placeOf 0 = .ok (.aload_n 0, 1) := by decide +kernel
theorem dX3_placeOf_1 : decode cX3_placeOf 1 = .ok (.getfield 10, 3) := by decide +kernel
theorem dX3_placeOf_4 : decode cX3_placeOf 4 = .ok (.iload_n 1, 1) := by decide +kernel
theorem dX3_placeOf_5 : decode cX3_placeOf 5 = .ok (.invokevirtual 161, 3) := by decide +kernel
theorem dX3_placeOf_8 : decode cX3_placeOf 8 = .ok (.ifCond .ne 13, 3) := by decide +kernel
theorem dX3_placeOf_11 : decode cX3_placeOf 11 = .ok (.new 164, 3) := by decide +kernel
theorem dX3_placeOf_14 : decode cX3_placeOf 14 = .ok (.dup, 1) := by decide +kernel
theorem dX3_placeOf_15 : decode cX3_placeOf 15 = .ok (.ldc 166, 2) := by decide +kernel
theorem dX3_placeOf_17 : decode cX3_placeOf 17 = .ok (.invokespecial 168, 3) := by decide +kernel
theorem dX3_placeOf_20 : decode cX3_placeOf 20 = .ok (.athrow, 1) := by decide +kernel
theorem dX3_placeOf_21 : decode cX3_placeOf 21 = .ok (.aload_n 0, 1) := by decide +kernel
theorem dX3_placeOf_22 : decode cX3_placeOf 22 = .ok (.getfield 10, 3) := by decide +kernel
theorem dX3_placeOf_25 : decode cX3_placeOf 25 = .ok (.getfield 173, 3) := by decide +kernel
theorem dX3_placeOf_28 : decode cX3_placeOf 28 = .ok (.iload_n 1, 1) := by decide +kernel
theorem dX3_placeOf_29 : decode cX3_placeOf 29 = .ok (.iaload, 1) := by decide +kernel
theorem dX3_placeOf_30 : decode cX3_placeOf 30 = .ok (.ireturn, 1) := by decide +kernel
theorem dX3_lengthOf_0 : decode cX3_lengthOf 0 = .ok (.aload_n 0, 1) := by decide +kernel
theorem dX3_lengthOf_1 : decode cX3_lengthOf 1 = .ok (.getfield 10, 3) := by decide +kernel
theorem dX3_lengthOf_4 : decode cX3_lengthOf 4 = .ok (.iload_n 1, 1) := by decide +kernel
theorem dX3_lengthOf_5 : decode cX3_lengthOf 5 = .ok (.invokevirtual 161, 3) := by decide +kernel
theorem dX3_lengthOf_8 : decode cX3_lengthOf 8 = .ok (.ifCond .ne 13, 3) := by decide +kernel
theorem dX3_lengthOf_11 : decode cX3_lengthOf 11 = .ok (.new 164, 3) := by decide +kernel
theorem dX3_lengthOf_14 : decode cX3_lengthOf 14 = .ok (.dup, 1) := by decide +kernel
theorem dX3_lengthOf_15 : decode cX3_lengthOf 15 = .ok (.ldc 166, 2) := by decide +kernel
theorem dX3_lengthOf_17 : decode cX3_lengthOf 17 = .ok (.invokespecial 168, 3) := by decide +kernel
theorem dX3_lengthOf_20 : decode cX3_lengthOf 20 = .ok (.athrow, 1) := by decide +kernel
theorem dX3_lengthOf_21 : decode cX3_lengthOf 21 = .ok (.aload_n 0, 1) := by decide +kernel
theorem dX3_lengthOf_22 : decode cX3_lengthOf 22 = .ok (.getfield 10, 3) := by decide +kernel
theorem dX3_lengthOf_25 : decode cX3_lengthOf 25 = .ok (.getfield 176, 3) := by decide +kernel
theorem dX3_lengthOf_28 : decode cX3_lengthOf 28 = .ok (.iload_n 1, 1) := by decide +kernel
theorem dX3_lengthOf_29 : decode cX3_lengthOf 29 = .ok (.iaload, 1) := by decide +kernel
theorem dX3_lengthOf_30 : decode cX3_lengthOf 30 = .ok (.ireturn, 1) := by decide +kernel
theorem dX3_carOn_0 : decode cX3_carOn 0 = .ok (.iload_n 1, 1) := by decide +kernel
theorem dX3_carOn_1 : decode cX3_carOn 1 = .ok (.invokestatic 179, 3) := by decide +kernel
theorem dX3_carOn_4 : decode cX3_carOn 4 = .ok (.ifCond .ne 13, 3) := by decide +kernel
theorem dX3_carOn_7 : decode cX3_carOn 7 = .ok (.new 164, 3) := by decide +kernel
theorem dX3_carOn_10 : decode cX3_carOn 10 = .ok (.dup, 1) := by decide +kernel
theorem dX3_carOn_11 : decode cX3_carOn 11 = .ok (.ldc 182, 2) := by decide +kernel
theorem dX3_carOn_13 : decode cX3_carOn 13 = .ok (.invokespecial 168, 3) := by decide +kernel
theorem dX3_carOn_16 : decode cX3_carOn 16 = .ok (.athrow, 1) := by decide +kernel
theorem dX3_carOn_17 : decode cX3_carOn 17 = .ok (.aload_n 0, 1) := by decide +kernel
theorem dX3_carOn_18 : decode cX3_carOn 18 = .ok (.getfield 10, 3) := by decide +kernel
theorem dX3_carOn_21 : decode cX3_carOn 21 = .ok (.iload_n 1, 1) := by decide +kernel
theorem dX3_carOn_22 : decode cX3_carOn 22 = .ok (.invokevirtual 184, 3) := by decide +kernel
theorem dX3_carOn_25 : decode cX3_carOn 25 = .ok (.ireturn, 1) := by decide +kernel
theorem dX3_isWall_0 : decode cX3_isWall 0 = .ok (.iload_n 1, 1) := by decide +kernel
theorem dX3_isWall_1 : decode cX3_isWall 1 = .ok (.invokestatic 179, 3) := by decide +kernel
theorem dX3_isWall_4 : decode cX3_isWall 4 = .ok (.ifCond .ne 13, 3) := by decide +kernel
theorem dX3_isWall_7 : decode cX3_isWall 7 = .ok (.new 164, 3) := by decide +kernel
theorem dX3_isWall_10 : decode cX3_isWall 10 = .ok (.dup, 1) := by decide +kernel
theorem dX3_isWall_11 : decode cX3_isWall 11 = .ok (.ldc 182, 2) := by decide +kernel
theorem dX3_isWall_13 : decode cX3_isWall 13 = .ok (.invokespecial 168, 3) := by decide +kernel
theorem dX3_isWall_16 : decode cX3_isWall 16 = .ok (.athrow, 1) := by decide +kernel
theorem dX3_isWall_17 : decode cX3_isWall 17 = .ok (.aload_n 0, 1) := by decide +kernel
theorem dX3_isWall_18 : decode cX3_isWall 18 = .ok (.getfield 10, 3) := by decide +kernel
theorem dX3_isWall_21 : decode cX3_isWall 21 = .ok (.iload_n 1, 1) := by decide +kernel
theorem dX3_isWall_22 : decode cX3_isWall 22 = .ok (.invokevirtual 187, 3) := by decide +kernel
theorem dX3_isWall_25 : decode cX3_isWall 25 = .ok (.ireturn, 1) := by decide +kernel
theorem dX3_freeCells_0 : decode cX3_freeCells 0 = .ok (.bipush 25, 2) := by decide +kernel
theorem dX3_freeCells_2 : decode cX3_freeCells 2 = .ok (.aload_n 0, 1) := by decide +kernel
theorem dX3_freeCells_3 : decode cX3_freeCells 3 = .ok (.getfield 10, 3) := by decide +kernel
theorem dX3_freeCells_6 : decode cX3_freeCells 6 = .ok (.invokevirtual 190, 3) := by decide +kernel
theorem dX3_freeCells_9 : decode cX3_freeCells 9 = .ok (.invokestatic 156, 3) := by decide +kernel
theorem dX3_freeCells_12 : decode cX3_freeCells 12 = .ok (.isub, 1) := by decide +kernel
theorem dX3_freeCells_13 : decode cX3_freeCells 13 = .ok (.ireturn, 1) := by decide +kernel
theorem dX3_isOut_0 : decode cX3_isOut 0 = .ok (.aload_n 0, 1) := by decide +kernel
theorem dX3_isOut_1 : decode cX3_isOut 1 = .ok (.getfield 10, 3) := by decide +kernel
theorem dX3_isOut_4 : decode cX3_isOut 4 = .ok (.invokevirtual 193, 3) := by decide +kernel
theorem dX3_isOut_7 : decode cX3_isOut 7 = .ok (.ireturn, 1) := by decide +kernel
theorem dX3_room_0 : decode cX3_room 0 = .ok (.aload_n 0, 1) := by decide +kernel
theorem dX3_room_1 : decode cX3_room 1 = .ok (.getfield 10, 3) := by decide +kernel
theorem dX3_room_4 : decode cX3_room 4 = .ok (.iload_n 1, 1) := by decide +kernel
theorem dX3_room_5 : decode cX3_room 5 = .ok (.invokevirtual 161, 3) := by decide +kernel
theorem dX3_room_8 : decode cX3_room 8 = .ok (.ifCond .ne 13, 3) := by decide +kernel
theorem dX3_room_11 : decode cX3_room 11 = .ok (.new 164, 3) := by decide +kernel
theorem dX3_room_14 : decode cX3_room 14 = .ok (.dup, 1) := by decide +kernel
theorem dX3_room_15 : decode cX3_room 15 = .ok (.ldc 166, 2) := by decide +kernel
theorem dX3_room_17 : decode cX3_room 17 = .ok (.invokespecial 168, 3) := by decide +kernel
theorem dX3_room_20 : decode cX3_room 20 = .ok (.athrow, 1) := by decide +kernel
theorem dX3_room_21 : decode cX3_room 21 = .ok (.aload_n 0, 1) := by decide +kernel
theorem dX3_room_22 : decode cX3_room 22 = .ok (.getfield 10, 3) := by decide +kernel
theorem dX3_room_25 : decode cX3_room 25 = .ok (.iload_n 1, 1) := by decide +kernel
theorem dX3_room_26 : decode cX3_room 26 = .ok (.iload_n 2, 1) := by decide +kernel
theorem dX3_room_27 : decode cX3_room 27 = .ok (.ifCond .eq 7, 3) := by decide +kernel
theorem dX3_room_30 : decode cX3_room 30 = .ok (.iconst 1, 1) := by decide +kernel
theorem dX3_room_31 : decode cX3_room 31 = .ok (.goto 4, 3) := by decide +kernel
theorem dX3_room_34 : decode cX3_room 34 = .ok (.iconst (-1), 1) := by decide +kernel
theorem dX3_room_35 : decode cX3_room 35 = .ok (.invokevirtual 196, 3) := by decide +kernel
theorem dX3_room_38 : decode cX3_room 38 = .ok (.ireturn, 1) := by decide +kernel
theorem dX3_possibleSlides_0 : decode cX3_possibleSlides 0 = .ok (.iconst 0, 1) := by decide +kernel
theorem dX3_possibleSlides_1 : decode cX3_possibleSlides 1 = .ok (.istore_n 1, 1) := by decide +kernel
theorem dX3_possibleSlides_2 : decode cX3_possibleSlides 2 = .ok (.iconst 0, 1) := by decide +kernel
theorem dX3_possibleSlides_3 : decode cX3_possibleSlides 3 = .ok (.istore_n 2, 1) := by decide +kernel
theorem dX3_possibleSlides_4 : decode cX3_possibleSlides 4 = .ok (.iload_n 2, 1) := by decide +kernel
theorem dX3_possibleSlides_5 : decode cX3_possibleSlides 5 = .ok (.aload_n 0, 1) := by decide +kernel
theorem dX3_possibleSlides_6 : decode cX3_possibleSlides 6 = .ok (.getfield 10, 3) := by decide +kernel
theorem dX3_possibleSlides_9 : decode cX3_possibleSlides 9 = .ok (.getfield 59, 3) := by decide +kernel
theorem dX3_possibleSlides_12 : decode cX3_possibleSlides 12 = .ok (.if_icmp .ge 31, 3) := by decide +kernel
theorem dX3_possibleSlides_15 : decode cX3_possibleSlides 15 = .ok (.iload_n 1, 1) := by decide +kernel
theorem dX3_possibleSlides_16 : decode cX3_possibleSlides 16 = .ok (.aload_n 0, 1) := by decide +kernel
theorem dX3_possibleSlides_17 : decode cX3_possibleSlides 17 = .ok (.getfield 10, 3) := by decide +kernel
theorem dX3_possibleSlides_20 : decode cX3_possibleSlides 20 = .ok (.iload_n 2, 1) := by decide +kernel
theorem dX3_possibleSlides_21 : decode cX3_possibleSlides 21 = .ok (.iconst 1, 1) := by decide +kernel
theorem dX3_possibleSlides_22 : decode cX3_possibleSlides 22 = .ok (.invokevirtual 196, 3) := by decide +kernel
theorem dX3_possibleSlides_25 : decode cX3_possibleSlides 25 = .ok (.aload_n 0, 1) := by decide +kernel
theorem dX3_possibleSlides_26 : decode cX3_possibleSlides 26 = .ok (.getfield 10, 3) := by decide +kernel
theorem dX3_possibleSlides_29 : decode cX3_possibleSlides 29 = .ok (.iload_n 2, 1) := by decide +kernel
theorem dX3_possibleSlides_30 : decode cX3_possibleSlides 30 = .ok (.iconst (-1), 1) := by decide +kernel
theorem dX3_possibleSlides_31 : decode cX3_possibleSlides 31 = .ok (.invokevirtual 196, 3) := by decide +kernel
theorem dX3_possibleSlides_34 : decode cX3_possibleSlides 34 = .ok (.iadd, 1) := by decide +kernel
theorem dX3_possibleSlides_35 : decode cX3_possibleSlides 35 = .ok (.iadd, 1) := by decide +kernel
theorem dX3_possibleSlides_36 : decode cX3_possibleSlides 36 = .ok (.istore_n 1, 1) := by decide +kernel
theorem dX3_possibleSlides_37 : decode cX3_possibleSlides 37 = .ok (.iinc 2 1, 3) := by decide +kernel
theorem dX3_possibleSlides_40 : decode cX3_possibleSlides 40 = .ok (.goto (-36), 3) := by decide +kernel
theorem dX3_possibleSlides_43 : decode cX3_possibleSlides 43 = .ok (.iload_n 1, 1) := by decide +kernel
theorem dX3_possibleSlides_44 : decode cX3_possibleSlides 44 = .ok (.ireturn, 1) := by decide +kernel
theorem dX3_logged_0 : decode cX3_logged 0 = .ok (.aload_n 0, 1) := by decide +kernel
theorem dX3_logged_1 : decode cX3_logged 1 = .ok (.getfield 10, 3) := by decide +kernel
theorem dX3_logged_4 : decode cX3_logged 4 = .ok (.getfield 85, 3) := by decide +kernel
theorem dX3_logged_7 : decode cX3_logged 7 = .ok (.ireturn, 1) := by decide +kernel
theorem dX3_carOfSlide_0 : decode cX3_carOfSlide 0 = .ok (.aload_n 0, 1) := by decide +kernel
theorem dX3_carOfSlide_1 : decode cX3_carOfSlide 1 = .ok (.getfield 10, 3) := by decide +kernel
theorem dX3_carOfSlide_4 : decode cX3_carOfSlide 4 = .ok (.iload_n 1, 1) := by decide +kernel
theorem dX3_carOfSlide_5 : decode cX3_carOfSlide 5 = .ok (.invokevirtual 199, 3) := by decide +kernel
theorem dX3_carOfSlide_8 : decode cX3_carOfSlide 8 = .ok (.ifCond .ne 13, 3) := by decide +kernel
theorem dX3_carOfSlide_11 : decode cX3_carOfSlide 11 = .ok (.new 164, 3) := by decide +kernel
theorem dX3_carOfSlide_14 : decode cX3_carOfSlide 14 = .ok (.dup, 1) := by decide +kernel
theorem dX3_carOfSlide_15 : decode cX3_carOfSlide 15 = .ok (.ldc 202, 2) := by decide +kernel
theorem dX3_carOfSlide_17 : decode cX3_carOfSlide 17 = .ok (.invokespecial 168, 3) := by decide +kernel
theorem dX3_carOfSlide_20 : decode cX3_carOfSlide 20 = .ok (.athrow, 1) := by decide +kernel
theorem dX3_carOfSlide_21 : decode cX3_carOfSlide 21 = .ok (.aload_n 0, 1) := by decide +kernel
theorem dX3_carOfSlide_22 : decode cX3_carOfSlide 22 = .ok (.getfield 10, 3) := by decide +kernel
theorem dX3_carOfSlide_25 : decode cX3_carOfSlide 25 = .ok (.getfield 204, 3) := by decide +kernel
theorem dX3_carOfSlide_28 : decode cX3_carOfSlide 28 = .ok (.iload_n 1, 1) := by decide +kernel
theorem dX3_carOfSlide_29 : decode cX3_carOfSlide 29 = .ok (.iaload, 1) := by decide +kernel
theorem dX3_carOfSlide_30 : decode cX3_carOfSlide 30 = .ok (.ireturn, 1) := by decide +kernel
theorem dX3_changeBySlide_0 : decode cX3_changeBySlide 0 = .ok (.aload_n 0, 1) := by decide +kernel
theorem dX3_changeBySlide_1 : decode cX3_changeBySlide 1 = .ok (.getfield 10, 3) := by decide +kernel
theorem dX3_changeBySlide_4 : decode cX3_changeBySlide 4 = .ok (.iload_n 1, 1) := by decide +kernel
theorem dX3_changeBySlide_5 : decode cX3_changeBySlide 5 = .ok (.invokevirtual 199, 3) := by decide +kernel
theorem dX3_changeBySlide_8 : decode cX3_changeBySlide 8 = .ok (.ifCond .ne 13, 3) := by decide +kernel
theorem dX3_changeBySlide_11 : decode cX3_changeBySlide 11 = .ok (.new 164, 3) := by decide +kernel
theorem dX3_changeBySlide_14 : decode cX3_changeBySlide 14 = .ok (.dup, 1) := by decide +kernel
theorem dX3_changeBySlide_15 : decode cX3_changeBySlide 15 = .ok (.ldc 202, 2) := by decide +kernel
theorem dX3_changeBySlide_17 : decode cX3_changeBySlide 17 = .ok (.invokespecial 168, 3) := by decide +kernel
theorem dX3_changeBySlide_20 : decode cX3_changeBySlide 20 = .ok (.athrow, 1) := by decide +kernel
theorem dX3_changeBySlide_21 : decode cX3_changeBySlide 21 = .ok (.aload_n 0, 1) := by decide +kernel
theorem dX3_changeBySlide_22 : decode cX3_changeBySlide 22 = .ok (.getfield 10, 3) := by decide +kernel
theorem dX3_changeBySlide_25 : decode cX3_changeBySlide 25 = .ok (.getfield 207, 3) := by decide +kernel
theorem dX3_changeBySlide_28 : decode cX3_changeBySlide 28 = .ok (.iload_n 1, 1) := by decide +kernel
theorem dX3_changeBySlide_29 : decode cX3_changeBySlide 29 = .ok (.iaload, 1) := by decide +kernel
theorem dX3_changeBySlide_30 : decode cX3_changeBySlide 30 = .ok (.ireturn, 1) := by decide +kernel
theorem dX3_stepsOf_0 : decode cX3_stepsOf 0 = .ok (.aload_n 0, 1) := by decide +kernel
theorem dX3_stepsOf_1 : decode cX3_stepsOf 1 = .ok (.getfield 10, 3) := by decide +kernel
theorem dX3_stepsOf_4 : decode cX3_stepsOf 4 = .ok (.iload_n 1, 1) := by decide +kernel
theorem dX3_stepsOf_5 : decode cX3_stepsOf 5 = .ok (.invokevirtual 161, 3) := by decide +kernel
theorem dX3_stepsOf_8 : decode cX3_stepsOf 8 = .ok (.ifCond .ne 13, 3) := by decide +kernel
theorem dX3_stepsOf_11 : decode cX3_stepsOf 11 = .ok (.new 164, 3) := by decide +kernel
theorem dX3_stepsOf_14 : decode cX3_stepsOf 14 = .ok (.dup, 1) := by decide +kernel
theorem dX3_stepsOf_15 : decode cX3_stepsOf 15 = .ok (.ldc 166, 2) := by decide +kernel
theorem dX3_stepsOf_17 : decode cX3_stepsOf 17 = .ok (.invokespecial 168, 3) := by decide +kernel
theorem dX3_stepsOf_20 : decode cX3_stepsOf 20 = .ok (.athrow, 1) := by decide +kernel
theorem dX3_stepsOf_21 : decode cX3_stepsOf 21 = .ok (.aload_n 0, 1) := by decide +kernel
theorem dX3_stepsOf_22 : decode cX3_stepsOf 22 = .ok (.getfield 10, 3) := by decide +kernel
theorem dX3_stepsOf_25 : decode cX3_stepsOf 25 = .ok (.iload_n 1, 1) := by decide +kernel
theorem dX3_stepsOf_26 : decode cX3_stepsOf 26 = .ok (.invokevirtual 210, 3) := by decide +kernel
theorem dX3_stepsOf_29 : decode cX3_stepsOf 29 = .ok (.ireturn, 1) := by decide +kernel
theorem dX3_fuel_0 : decode cX3_fuel 0 = .ok (.aload_n 0, 1) := by decide +kernel
theorem dX3_fuel_1 : decode cX3_fuel 1 = .ok (.getfield 10, 3) := by decide +kernel
theorem dX3_fuel_4 : decode cX3_fuel 4 = .ok (.invokevirtual 213, 3) := by decide +kernel
theorem dX3_fuel_7 : decode cX3_fuel 7 = .ok (.ireturn, 1) := by decide +kernel
theorem dX3_fuelByCars_0 : decode cX3_fuelByCars 0 = .ok (.aload_n 0, 1) := by decide +kernel
theorem dX3_fuelByCars_1 : decode cX3_fuelByCars 1 = .ok (.getfield 10, 3) := by decide +kernel
theorem dX3_fuelByCars_4 : decode cX3_fuelByCars 4 = .ok (.invokevirtual 216, 3) := by decide +kernel
theorem dX3_fuelByCars_7 : decode cX3_fuelByCars 7 = .ok (.ireturn, 1) := by decide +kernel
theorem dX3_fewestSlides_0 : decode cX3_fewestSlides 0 = .ok (.aload_n 0, 1) := by decide +kernel
theorem dX3_fewestSlides_1 : decode cX3_fewestSlides 1 = .ok (.invokevirtual 219, 3) := by decide +kernel
theorem dX3_fewestSlides_4 : decode cX3_fewestSlides 4 = .ok (.aload_n 0, 1) := by decide +kernel
theorem dX3_fewestSlides_5 : decode cX3_fewestSlides 5 = .ok (.getfield 26, 3) := by decide +kernel
theorem dX3_fewestSlides_8 : decode cX3_fewestSlides 8 = .ok (.invokevirtual 222, 3) := by decide +kernel
theorem dX3_fewestSlides_11 : decode cX3_fewestSlides 11 = .ok (.ireturn, 1) := by decide +kernel
theorem dX3_fewestSlidesFromEnds_0 : decode cX3_fewestSlidesFromEnds 0 = .ok (.aload_n 0, 1) := by decide +kernel
theorem dX3_fewestSlidesFromEnds_1 : decode cX3_fewestSlidesFromEnds 1 = .ok (.invokevirtual 219, 3) := by decide +kernel
theorem dX3_fewestSlidesFromEnds_4 : decode cX3_fewestSlidesFromEnds 4 = .ok (.aload_n 0, 1) := by decide +kernel
theorem dX3_fewestSlidesFromEnds_5 : decode cX3_fewestSlidesFromEnds 5 = .ok (.getfield 26, 3) := by decide +kernel
theorem dX3_fewestSlidesFromEnds_8 : decode cX3_fewestSlidesFromEnds 8 = .ok (.invokevirtual 225, 3) := by decide +kernel
theorem dX3_fewestSlidesFromEnds_11 : decode cX3_fewestSlidesFromEnds 11 = .ok (.ireturn, 1) := by decide +kernel
theorem dX3_fewestSteps_0 : decode cX3_fewestSteps 0 = .ok (.aload_n 0, 1) := by decide +kernel
theorem dX3_fewestSteps_1 : decode cX3_fewestSteps 1 = .ok (.invokevirtual 219, 3) := by decide +kernel
theorem dX3_fewestSteps_4 : decode cX3_fewestSteps 4 = .ok (.aload_n 0, 1) := by decide +kernel
theorem dX3_fewestSteps_5 : decode cX3_fewestSteps 5 = .ok (.getfield 26, 3) := by decide +kernel
theorem dX3_fewestSteps_8 : decode cX3_fewestSteps 8 = .ok (.invokevirtual 228, 3) := by decide +kernel
theorem dX3_fewestSteps_11 : decode cX3_fewestSteps 11 = .ok (.ireturn, 1) := by decide +kernel
theorem dX3_leastFuel_0 : decode cX3_leastFuel 0 = .ok (.aload_n 0, 1) := by decide +kernel
theorem dX3_leastFuel_1 : decode cX3_leastFuel 1 = .ok (.invokevirtual 219, 3) := by decide +kernel
theorem dX3_leastFuel_4 : decode cX3_leastFuel 4 = .ok (.aload_n 0, 1) := by decide +kernel
theorem dX3_leastFuel_5 : decode cX3_leastFuel 5 = .ok (.getfield 26, 3) := by decide +kernel
theorem dX3_leastFuel_8 : decode cX3_leastFuel 8 = .ok (.invokevirtual 231, 3) := by decide +kernel
theorem dX3_leastFuel_11 : decode cX3_leastFuel 11 = .ok (.ireturn, 1) := by decide +kernel
theorem dX3_leastFuelByRounds_0 : decode cX3_leastFuelByRounds 0 = .ok (.aload_n 0, 1) := by decide +kernel
theorem dX3_leastFuelByRounds_1 : decode cX3_leastFuelByRounds 1 = .ok (.invokevirtual 219, 3) := by decide +kernel
theorem dX3_leastFuelByRounds_4 : decode cX3_leastFuelByRounds 4 = .ok (.aload_n 0, 1) := by decide +kernel
theorem dX3_leastFuelByRounds_5 : decode cX3_leastFuelByRounds 5 = .ok (.getfield 26, 3) := by decide +kernel
theorem dX3_leastFuelByRounds_8 : decode cX3_leastFuelByRounds 8 = .ok (.invokevirtual 234, 3) := by decide +kernel
theorem dX3_leastFuelByRounds_11 : decode cX3_leastFuelByRounds 11 = .ok (.ireturn, 1) := by decide +kernel
theorem dX3_nextCar_0 : decode cX3_nextCar 0 = .ok (.aload_n 0, 1) := by decide +kernel
theorem dX3_nextCar_1 : decode cX3_nextCar 1 = .ok (.invokevirtual 237, 3) := by decide +kernel
theorem dX3_nextCar_4 : decode cX3_nextCar 4 = .ok (.ifCond .ne 13, 3) := by decide +kernel
theorem dX3_nextCar_7 : decode cX3_nextCar 7 = .ok (.new 62, 3) := by decide +kernel
theorem dX3_nextCar_10 : decode cX3_nextCar 10 = .ok (.dup, 1) := by decide +kernel
theorem dX3_nextCar_11 : decode cX3_nextCar 11 = .ok (.ldc 240, 2) := by decide +kernel
theorem dX3_nextCar_13 : decode cX3_nextCar 13 = .ok (.invokespecial 66, 3) := by decide +kernel
theorem dX3_nextCar_16 : decode cX3_nextCar 16 = .ok (.athrow, 1) := by decide +kernel
theorem dX3_nextCar_17 : decode cX3_nextCar 17 = .ok (.aload_n 0, 1) := by decide +kernel
theorem dX3_nextCar_18 : decode cX3_nextCar 18 = .ok (.getfield 26, 3) := by decide +kernel
theorem dX3_nextCar_21 : decode cX3_nextCar 21 = .ok (.getfield 242, 3) := by decide +kernel
theorem dX3_nextCar_24 : decode cX3_nextCar 24 = .ok (.ireturn, 1) := by decide +kernel
theorem dX3_nextChange_0 : decode cX3_nextChange 0 = .ok (.aload_n 0, 1) := by decide +kernel
theorem dX3_nextChange_1 : decode cX3_nextChange 1 = .ok (.invokevirtual 237, 3) := by decide +kernel
theorem dX3_nextChange_4 : decode cX3_nextChange 4 = .ok (.ifCond .ne 13, 3) := by decide +kernel
theorem dX3_nextChange_7 : decode cX3_nextChange 7 = .ok (.new 62, 3) := by decide +kernel
theorem dX3_nextChange_10 : decode cX3_nextChange 10 = .ok (.dup, 1) := by decide +kernel
theorem dX3_nextChange_11 : decode cX3_nextChange 11 = .ok (.ldc 240, 2) := by decide +kernel
theorem dX3_nextChange_13 : decode cX3_nextChange 13 = .ok (.invokespecial 66, 3) := by decide +kernel
theorem dX3_nextChange_16 : decode cX3_nextChange 16 = .ok (.athrow, 1) := by decide +kernel
theorem dX3_nextChange_17 : decode cX3_nextChange 17 = .ok (.aload_n 0, 1) := by decide +kernel
theorem dX3_nextChange_18 : decode cX3_nextChange 18 = .ok (.getfield 26, 3) := by decide +kernel
theorem dX3_nextChange_21 : decode cX3_nextChange 21 = .ok (.getfield 245, 3) := by decide +kernel
theorem dX3_nextChange_24 : decode cX3_nextChange 24 = .ok (.ireturn, 1) := by decide +kernel
theorem dX3_reachable_0 : decode cX3_reachable 0 = .ok (.aload_n 0, 1) := by decide +kernel
theorem dX3_reachable_1 : decode cX3_reachable 1 = .ok (.invokevirtual 219, 3) := by decide +kernel
theorem dX3_reachable_4 : decode cX3_reachable 4 = .ok (.aload_n 0, 1) := by decide +kernel
theorem dX3_reachable_5 : decode cX3_reachable 5 = .ok (.getfield 26, 3) := by decide +kernel
theorem dX3_reachable_8 : decode cX3_reachable 8 = .ok (.iconst 3, 1) := by decide +kernel
theorem dX3_reachable_9 : decode cX3_reachable 9 = .ok (.invokevirtual 248, 3) := by decide +kernel
theorem dX3_reachable_12 : decode cX3_reachable 12 = .ok (.aload_n 0, 1) := by decide +kernel
theorem dX3_reachable_13 : decode cX3_reachable 13 = .ok (.getfield 26, 3) := by decide +kernel
theorem dX3_reachable_16 : decode cX3_reachable 16 = .ok (.getfield 251, 3) := by decide +kernel
theorem dX3_reachable_19 : decode cX3_reachable 19 = .ok (.ireturn, 1) := by decide +kernel
theorem dX3_reachableOut_0 : decode cX3_reachableOut 0 = .ok (.aload_n 0, 1) := by decide +kernel
theorem dX3_reachableOut_1 : decode cX3_reachableOut 1 = .ok (.invokevirtual 219, 3) := by decide +kernel
theorem dX3_reachableOut_4 : decode cX3_reachableOut 4 = .ok (.aload_n 0, 1) := by decide +kernel
theorem dX3_reachableOut_5 : decode cX3_reachableOut 5 = .ok (.getfield 26, 3) := by decide +kernel
theorem dX3_reachableOut_8 : decode cX3_reachableOut 8 = .ok (.iconst 3, 1) := by decide +kernel
theorem dX3_reachableOut_9 : decode cX3_reachableOut 9 = .ok (.invokevirtual 248, 3) := by decide +kernel
theorem dX3_reachableOut_12 : decode cX3_reachableOut 12 = .ok (.aload_n 0, 1) := by decide +kernel
theorem dX3_reachableOut_13 : decode cX3_reachableOut 13 = .ok (.getfield 26, 3) := by decide +kernel
theorem dX3_reachableOut_16 : decode cX3_reachableOut 16 = .ok (.invokevirtual 254, 3) := by decide +kernel
theorem dX3_reachableOut_19 : decode cX3_reachableOut 19 = .ok (.ireturn, 1) := by decide +kernel
theorem dX3_farthest_0 : decode cX3_farthest 0 = .ok (.aload_n 0, 1) := by decide +kernel
theorem dX3_farthest_1 : decode cX3_farthest 1 = .ok (.invokevirtual 219, 3) := by decide +kernel
theorem dX3_farthest_4 : decode cX3_farthest 4 = .ok (.aload_n 0, 1) := by decide +kernel
theorem dX3_farthest_5 : decode cX3_farthest 5 = .ok (.getfield 26, 3) := by decide +kernel
theorem dX3_farthest_8 : decode cX3_farthest 8 = .ok (.iconst 3, 1) := by decide +kernel
theorem dX3_farthest_9 : decode cX3_farthest 9 = .ok (.invokevirtual 248, 3) := by decide +kernel
theorem dX3_farthest_12 : decode cX3_farthest 12 = .ok (.aload_n 0, 1) := by decide +kernel
theorem dX3_farthest_13 : decode cX3_farthest 13 = .ok (.getfield 26, 3) := by decide +kernel
theorem dX3_farthest_16 : decode cX3_farthest 16 = .ok (.invokevirtual 257, 3) := by decide +kernel
theorem dX3_farthest_19 : decode cX3_farthest 19 = .ok (.ireturn, 1) := by decide +kernel
theorem dX3_arrangements_0 : decode cX3_arrangements 0 = .ok (.aload_n 0, 1) := by decide +kernel
theorem dX3_arrangements_1 : decode cX3_arrangements 1 = .ok (.invokevirtual 219, 3) := by decide +kernel
theorem dX3_arrangements_4 : decode cX3_arrangements 4 = .ok (.aload_n 0, 1) := by decide +kernel
theorem dX3_arrangements_5 : decode cX3_arrangements 5 = .ok (.getfield 26, 3) := by decide +kernel
theorem dX3_arrangements_8 : decode cX3_arrangements 8 = .ok (.invokevirtual 260, 3) := by decide +kernel
theorem dX3_arrangements_11 : decode cX3_arrangements 11 = .ok (.ireturn, 1) := by decide +kernel
theorem dX3_fewestBehind_0 : decode cX3_fewestBehind 0 = .ok (.aload_n 0, 1) := by decide +kernel
theorem dX3_fewestBehind_1 : decode cX3_fewestBehind 1 = .ok (.getfield 10, 3) := by decide +kernel
theorem dX3_fewestBehind_4 : decode cX3_fewestBehind 4 = .ok (.iload_n 1, 1) := by decide +kernel
theorem dX3_fewestBehind_5 : decode cX3_fewestBehind 5 = .ok (.iload_n 2, 1) := by decide +kernel
theorem dX3_fewestBehind_6 : decode cX3_fewestBehind 6 = .ok (.invokevirtual 81, 3) := by decide +kernel
theorem dX3_fewestBehind_9 : decode cX3_fewestBehind 9 = .ok (.invokestatic 49, 3) := by decide +kernel
theorem dX3_fewestBehind_12 : decode cX3_fewestBehind 12 = .ok (.aload_n 0, 1) := by decide +kernel
theorem dX3_fewestBehind_13 : decode cX3_fewestBehind 13 = .ok (.invokevirtual 219, 3) := by decide +kernel
theorem dX3_fewestBehind_16 : decode cX3_fewestBehind 16 = .ok (.aload_n 0, 1) := by decide +kernel
theorem dX3_fewestBehind_17 : decode cX3_fewestBehind 17 = .ok (.getfield 26, 3) := by decide +kernel
theorem dX3_fewestBehind_20 : decode cX3_fewestBehind 20 = .ok (.aload_n 0, 1) := by decide +kernel
theorem dX3_fewestBehind_21 : decode cX3_fewestBehind 21 = .ok (.getfield 26, 3) := by decide +kernel
theorem dX3_fewestBehind_24 : decode cX3_fewestBehind 24 = .ok (.aload_n 0, 1) := by decide +kernel
theorem dX3_fewestBehind_25 : decode cX3_fewestBehind 25 = .ok (.getfield 26, 3) := by decide +kernel
theorem dX3_fewestBehind_28 : decode cX3_fewestBehind 28 = .ok (.getfield 263, 3) := by decide +kernel
theorem dX3_fewestBehind_31 : decode cX3_fewestBehind 31 = .ok (.iload_n 1, 1) := by decide +kernel
theorem dX3_fewestBehind_32 : decode cX3_fewestBehind 32 = .ok (.iload_n 2, 1) := by decide +kernel
theorem dX3_fewestBehind_33 : decode cX3_fewestBehind 33 = .ok (.invokevirtual 266, 3) := by decide +kernel
theorem dX3_fewestBehind_36 : decode cX3_fewestBehind 36 = .ok (.putfield 263, 3) := by decide +kernel
theorem dX3_fewestBehind_39 : decode cX3_fewestBehind 39 = .ok (.aload_n 0, 1) := by decide +kernel
theorem dX3_fewestBehind_40 : decode cX3_fewestBehind 40 = .ok (.getfield 26, 3) := by decide +kernel
theorem dX3_fewestBehind_43 : decode cX3_fewestBehind 43 = .ok (.invokevirtual 222, 3) := by decide +kernel
theorem dX3_fewestBehind_46 : decode cX3_fewestBehind 46 = .ok (.ireturn, 1) := by decide +kernel
theorem dX3_fewestWithoutLast_0 : decode cX3_fewestWithoutLast 0 = .ok (.aload_n 0, 1) := by decide +kernel
theorem dX3_fewestWithoutLast_1 : decode cX3_fewestWithoutLast 1 = .ok (.getfield 10, 3) := by decide +kernel
theorem dX3_fewestWithoutLast_4 : decode cX3_fewestWithoutLast 4 = .ok (.getfield 59, 3) := by decide +kernel
theorem dX3_fewestWithoutLast_7 : decode cX3_fewestWithoutLast 7 = .ok (.iconst 2, 1) := by decide +kernel
theorem dX3_fewestWithoutLast_8 : decode cX3_fewestWithoutLast 8 = .ok (.if_icmp .ge 14, 3) := by decide +kernel
theorem dX3_fewestWithoutLast_11 : decode cX3_fewestWithoutLast 11 = .ok (.new 62, 3) := by decide +kernel
theorem dX3_fewestWithoutLast_14 : decode cX3_fewestWithoutLast 14 = .ok (.dup, 1) := by decide +kernel
theorem dX3_fewestWithoutLast_15 : decode cX3_fewestWithoutLast 15 = .ok (.ldc_w 269, 3) := by decide +kernel
theorem dX3_fewestWithoutLast_18 : decode cX3_fewestWithoutLast 18 = .ok (.invokespecial 66, 3) := by decide +kernel
theorem dX3_fewestWithoutLast_21 : decode cX3_fewestWithoutLast 21 = .ok (.athrow, 1) := by decide +kernel
theorem dX3_fewestWithoutLast_22 : decode cX3_fewestWithoutLast 22 = .ok (.aload_n 0, 1) := by decide +kernel
theorem dX3_fewestWithoutLast_23 : decode cX3_fewestWithoutLast 23 = .ok (.getfield 26, 3) := by decide +kernel
theorem dX3_fewestWithoutLast_26 : decode cX3_fewestWithoutLast 26 = .ok (.aload_n 0, 1) := by decide +kernel
theorem dX3_fewestWithoutLast_27 : decode cX3_fewestWithoutLast 27 = .ok (.getfield 10, 3) := by decide +kernel
theorem dX3_fewestWithoutLast_30 : decode cX3_fewestWithoutLast 30 = .ok (.aload_n 0, 1) := by decide +kernel
theorem dX3_fewestWithoutLast_31 : decode cX3_fewestWithoutLast 31 = .ok (.getfield 10, 3) := by decide +kernel
theorem dX3_fewestWithoutLast_34 : decode cX3_fewestWithoutLast 34 = .ok (.getfield 59, 3) := by decide +kernel
theorem dX3_fewestWithoutLast_37 : decode cX3_fewestWithoutLast 37 = .ok (.iconst 1, 1) := by decide +kernel
theorem dX3_fewestWithoutLast_38 : decode cX3_fewestWithoutLast 38 = .ok (.isub, 1) := by decide +kernel
theorem dX3_fewestWithoutLast_39 : decode cX3_fewestWithoutLast 39 = .ok (.aload_n 0, 1) := by decide +kernel
theorem dX3_fewestWithoutLast_40 : decode cX3_fewestWithoutLast 40 = .ok (.getfield 10, 3) := by decide +kernel
theorem dX3_fewestWithoutLast_43 : decode cX3_fewestWithoutLast 43 = .ok (.getfield 153, 3) := by decide +kernel
theorem dX3_fewestWithoutLast_46 : decode cX3_fewestWithoutLast 46 = .ok (.invokevirtual 271, 3) := by decide +kernel
theorem dX3_fewestWithoutLast_49 : decode cX3_fewestWithoutLast 49 = .ok (.aload_n 0, 1) := by decide +kernel
theorem dX3_fewestWithoutLast_50 : decode cX3_fewestWithoutLast 50 = .ok (.getfield 26, 3) := by decide +kernel
theorem dX3_fewestWithoutLast_53 : decode cX3_fewestWithoutLast 53 = .ok (.invokevirtual 222, 3) := by decide +kernel
theorem dX3_fewestWithoutLast_56 : decode cX3_fewestWithoutLast 56 = .ok (.ireturn, 1) := by decide +kernel
theorem dX3_fewestWithWall_0 : decode cX3_fewestWithWall 0 = .ok (.iload_n 1, 1) := by decide +kernel
theorem dX3_fewestWithWall_1 : decode cX3_fewestWithWall 1 = .ok (.invokestatic 179, 3) := by decide +kernel
theorem dX3_fewestWithWall_4 : decode cX3_fewestWithWall 4 = .ok (.ifCond .ne 13, 3) := by decide +kernel
theorem dX3_fewestWithWall_7 : decode cX3_fewestWithWall 7 = .ok (.new 164, 3) := by decide +kernel
theorem dX3_fewestWithWall_10 : decode cX3_fewestWithWall 10 = .ok (.dup, 1) := by decide +kernel
theorem dX3_fewestWithWall_11 : decode cX3_fewestWithWall 11 = .ok (.ldc 182, 2) := by decide +kernel
theorem dX3_fewestWithWall_13 : decode cX3_fewestWithWall 13 = .ok (.invokespecial 168, 3) := by decide +kernel
theorem dX3_fewestWithWall_16 : decode cX3_fewestWithWall 16 = .ok (.athrow, 1) := by decide +kernel
theorem dX3_fewestWithWall_17 : decode cX3_fewestWithWall 17 = .ok (.aload_n 0, 1) := by decide +kernel
theorem dX3_fewestWithWall_18 : decode cX3_fewestWithWall 18 = .ok (.getfield 10, 3) := by decide +kernel
theorem dX3_fewestWithWall_21 : decode cX3_fewestWithWall 21 = .ok (.invokevirtual 190, 3) := by decide +kernel
theorem dX3_fewestWithWall_24 : decode cX3_fewestWithWall 24 = .ok (.iconst 1, 1) := by decide +kernel
theorem dX3_fewestWithWall_25 : decode cX3_fewestWithWall 25 = .ok (.iload_n 1, 1) := by decide +kernel
theorem dX3_fewestWithWall_26 : decode cX3_fewestWithWall 26 = .ok (.ishl, 1) := by decide +kernel
theorem dX3_fewestWithWall_27 : decode cX3_fewestWithWall 27 = .ok (.iand, 1) := by decide +kernel
theorem dX3_fewestWithWall_28 : decode cX3_fewestWithWall 28 = .ok (.ifCond .eq 14, 3) := by decide +kernel
theorem dX3_fewestWithWall_31 : decode cX3_fewestWithWall 31 = .ok (.new 62, 3) := by decide +kernel
theorem dX3_fewestWithWall_34 : decode cX3_fewestWithWall 34 = .ok (.dup, 1) := by decide +kernel
theorem dX3_fewestWithWall_35 : decode cX3_fewestWithWall 35 = .ok (.ldc_w 275, 3) := by decide +kernel
theorem dX3_fewestWithWall_38 : decode cX3_fewestWithWall 38 = .ok (.invokespecial 66, 3) := by decide +kernel
theorem dX3_fewestWithWall_41 : decode cX3_fewestWithWall 41 = .ok (.athrow, 1) := by decide +kernel
theorem dX3_fewestWithWall_42 : decode cX3_fewestWithWall 42 = .ok (.aload_n 0, 1) := by decide +kernel
theorem dX3_fewestWithWall_43 : decode cX3_fewestWithWall 43 = .ok (.getfield 26, 3) := by decide +kernel
theorem dX3_fewestWithWall_46 : decode cX3_fewestWithWall 46 = .ok (.aload_n 0, 1) := by decide +kernel
theorem dX3_fewestWithWall_47 : decode cX3_fewestWithWall 47 = .ok (.getfield 10, 3) := by decide +kernel
theorem dX3_fewestWithWall_50 : decode cX3_fewestWithWall 50 = .ok (.aload_n 0, 1) := by decide +kernel
theorem dX3_fewestWithWall_51 : decode cX3_fewestWithWall 51 = .ok (.getfield 10, 3) := by decide +kernel
theorem dX3_fewestWithWall_54 : decode cX3_fewestWithWall 54 = .ok (.getfield 59, 3) := by decide +kernel
theorem dX3_fewestWithWall_57 : decode cX3_fewestWithWall 57 = .ok (.aload_n 0, 1) := by decide +kernel
theorem dX3_fewestWithWall_58 : decode cX3_fewestWithWall 58 = .ok (.getfield 10, 3) := by decide +kernel
theorem dX3_fewestWithWall_61 : decode cX3_fewestWithWall 61 = .ok (.getfield 153, 3) := by decide +kernel
theorem dX3_fewestWithWall_64 : decode cX3_fewestWithWall 64 = .ok (.iconst 1, 1) := by decide +kernel
theorem dX3_fewestWithWall_65 : decode cX3_fewestWithWall 65 = .ok (.iload_n 1, 1) := by decide +kernel
theorem dX3_fewestWithWall_66 : decode cX3_fewestWithWall 66 = .ok (.ishl, 1) := by decide +kernel
theorem dX3_fewestWithWall_67 : decode cX3_fewestWithWall 67 = .ok (.ior, 1) := by decide +kernel
theorem dX3_fewestWithWall_68 : decode cX3_fewestWithWall 68 = .ok (.invokevirtual 271, 3) := by decide +kernel
theorem dX3_fewestWithWall_71 : decode cX3_fewestWithWall 71 = .ok (.aload_n 0, 1) := by decide +kernel
theorem dX3_fewestWithWall_72 : decode cX3_fewestWithWall 72 = .ok (.getfield 26, 3) := by decide +kernel
theorem dX3_fewestWithWall_75 : decode cX3_fewestWithWall 75 = .ok (.invokevirtual 222, 3) := by decide +kernel
theorem dX3_fewestWithWall_78 : decode cX3_fewestWithWall 78 = .ok (.ireturn, 1) := by decide +kernel
theorem dX3_digest_0 : decode cX3_digest 0 = .ok (.aload_n 0, 1) := by decide +kernel
theorem dX3_digest_1 : decode cX3_digest 1 = .ok (.ldc2_w 281, 3) := by decide +kernel
theorem dX3_digest_4 : decode cX3_digest 4 = .ok (.invokevirtual 283, 3) := by decide +kernel
theorem dX3_digest_7 : decode cX3_digest 7 = .ok (.lstore_n 1, 1) := by decide +kernel
theorem dX3_digest_8 : decode cX3_digest 8 = .ok (.aload_n 0, 1) := by decide +kernel
theorem dX3_digest_9 : decode cX3_digest 9 = .ok (.invokevirtual 219, 3) := by decide +kernel
theorem dX3_digest_12 : decode cX3_digest 12 = .ok (.aload_n 0, 1) := by decide +kernel
theorem dX3_digest_13 : decode cX3_digest 13 = .ok (.lload_n 1, 1) := by decide +kernel
theorem dX3_digest_14 : decode cX3_digest 14 = .ok (.invokevirtual 287, 3) := by decide +kernel
theorem dX3_digest_17 : decode cX3_digest 17 = .ok (.lstore_n 1, 1) := by decide +kernel
theorem dX3_digest_18 : decode cX3_digest 18 = .ok (.aload_n 0, 1) := by decide +kernel
theorem dX3_digest_19 : decode cX3_digest 19 = .ok (.getfield 26, 3) := by decide +kernel
theorem dX3_digest_22 : decode cX3_digest 22 = .ok (.iconst 3, 1) := by decide +kernel
theorem dX3_digest_23 : decode cX3_digest 23 = .ok (.invokevirtual 248, 3) := by decide +kernel
theorem dX3_digest_26 : decode cX3_digest 26 = .ok (.aload_n 0, 1) := by decide +kernel
theorem dX3_digest_27 : decode cX3_digest 27 = .ok (.lload_n 1, 1) := by decide +kernel
theorem dX3_digest_28 : decode cX3_digest 28 = .ok (.invokevirtual 290, 3) := by decide +kernel
theorem dX3_digest_31 : decode cX3_digest 31 = .ok (.lstore_n 1, 1) := by decide +kernel
theorem dX3_digest_32 : decode cX3_digest 32 = .ok (.lload_n 1, 1) := by decide +kernel
theorem dX3_digest_33 : decode cX3_digest 33 = .ok (.aload_n 0, 1) := by decide +kernel
theorem dX3_digest_34 : decode cX3_digest 34 = .ok (.getfield 37, 3) := by decide +kernel
theorem dX3_digest_37 : decode cX3_digest 37 = .ok (.i2l, 1) := by decide +kernel
theorem dX3_digest_38 : decode cX3_digest 38 = .ok (.invokestatic 293, 3) := by decide +kernel
theorem dX3_digest_41 : decode cX3_digest 41 = .ok (.lstore_n 1, 1) := by decide +kernel
theorem dX3_digest_42 : decode cX3_digest 42 = .ok (.aload_n 0, 1) := by decide +kernel
theorem dX3_digest_43 : decode cX3_digest 43 = .ok (.lload_n 1, 1) := by decide +kernel
theorem dX3_digest_44 : decode cX3_digest 44 = .ok (.invokevirtual 297, 3) := by decide +kernel
theorem dX3_digest_47 : decode cX3_digest 47 = .ok (.lstore_n 1, 1) := by decide +kernel
theorem dX3_digest_48 : decode cX3_digest 48 = .ok (.aload_n 0, 1) := by decide +kernel
theorem dX3_digest_49 : decode cX3_digest 49 = .ok (.lload_n 1, 1) := by decide +kernel
theorem dX3_digest_50 : decode cX3_digest 50 = .ok (.invokevirtual 300, 3) := by decide +kernel
theorem dX3_digest_53 : decode cX3_digest 53 = .ok (.lstore_n 1, 1) := by decide +kernel
theorem dX3_digest_54 : decode cX3_digest 54 = .ok (.aload_n 0, 1) := by decide +kernel
theorem dX3_digest_55 : decode cX3_digest 55 = .ok (.lload_n 1, 1) := by decide +kernel
theorem dX3_digest_56 : decode cX3_digest 56 = .ok (.invokevirtual 303, 3) := by decide +kernel
theorem dX3_digest_59 : decode cX3_digest 59 = .ok (.lstore_n 1, 1) := by decide +kernel
theorem dX3_digest_60 : decode cX3_digest 60 = .ok (.lload_n 1, 1) := by decide +kernel
theorem dX3_digest_61 : decode cX3_digest 61 = .ok (.aload_n 0, 1) := by decide +kernel
theorem dX3_digest_62 : decode cX3_digest 62 = .ok (.getfield 10, 3) := by decide +kernel
theorem dX3_digest_65 : decode cX3_digest 65 = .ok (.getfield 137, 3) := by decide +kernel
theorem dX3_digest_68 : decode cX3_digest 68 = .ok (.ifCond .eq 7, 3) := by decide +kernel
theorem dX3_digest_71 : decode cX3_digest 71 = .ok (.lconst 1, 1) := by decide +kernel
theorem dX3_digest_72 : decode cX3_digest 72 = .ok (.goto 4, 3) := by decide +kernel
theorem dX3_digest_75 : decode cX3_digest 75 = .ok (.lconst 0, 1) := by decide +kernel
theorem dX3_digest_76 : decode cX3_digest 76 = .ok (.invokestatic 293, 3) := by decide +kernel
theorem dX3_digest_79 : decode cX3_digest 79 = .ok (.lstore_n 1, 1) := by decide +kernel
theorem dX3_digest_80 : decode cX3_digest 80 = .ok (.aload_n 0, 1) := by decide +kernel
theorem dX3_digest_81 : decode cX3_digest 81 = .ok (.getfield 10, 3) := by decide +kernel
theorem dX3_digest_84 : decode cX3_digest 84 = .ok (.getfield 137, 3) := by decide +kernel
theorem dX3_digest_87 : decode cX3_digest 87 = .ok (.ifCond .eq 16, 3) := by decide +kernel
theorem dX3_digest_90 : decode cX3_digest 90 = .ok (.lload_n 1, 1) := by decide +kernel
theorem dX3_digest_91 : decode cX3_digest 91 = .ok (.aload_n 0, 1) := by decide +kernel
theorem dX3_digest_92 : decode cX3_digest 92 = .ok (.getfield 10, 3) := by decide +kernel
theorem dX3_digest_95 : decode cX3_digest 95 = .ok (.getfield 140, 3) := by decide +kernel
theorem dX3_digest_98 : decode cX3_digest 98 = .ok (.i2l, 1) := by decide +kernel
theorem dX3_digest_99 : decode cX3_digest 99 = .ok (.invokestatic 293, 3) := by decide +kernel
theorem dX3_digest_102 : decode cX3_digest 102 = .ok (.lstore_n 1, 1) := by decide +kernel
theorem dX3_digest_103 : decode cX3_digest 103 = .ok (.lload_n 1, 1) := by decide +kernel
theorem dX3_digest_104 : decode cX3_digest 104 = .ok (.aload_n 0, 1) := by decide +kernel
theorem dX3_digest_105 : decode cX3_digest 105 = .ok (.getfield 26, 3) := by decide +kernel
theorem dX3_digest_108 : decode cX3_digest 108 = .ok (.getfield 251, 3) := by decide +kernel
theorem dX3_digest_111 : decode cX3_digest 111 = .ok (.aload_n 0, 1) := by decide +kernel
theorem dX3_digest_112 : decode cX3_digest 112 = .ok (.getfield 26, 3) := by decide +kernel
theorem dX3_digest_115 : decode cX3_digest 115 = .ok (.invokevirtual 260, 3) := by decide +kernel
theorem dX3_digest_118 : decode cX3_digest 118 = .ok (.invokestatic 277, 3) := by decide +kernel
theorem dX3_digest_121 : decode cX3_digest 121 = .ok (.invokestatic 306, 3) := by decide +kernel
theorem dX3_digest_124 : decode cX3_digest 124 = .ok (.invokestatic 293, 3) := by decide +kernel
theorem dX3_digest_127 : decode cX3_digest 127 = .ok (.lstore_n 1, 1) := by decide +kernel
theorem dX3_digest_128 : decode cX3_digest 128 = .ok (.aload_n 0, 1) := by decide +kernel
theorem dX3_digest_129 : decode cX3_digest 129 = .ok (.lload_n 1, 1) := by decide +kernel
theorem dX3_digest_130 : decode cX3_digest 130 = .ok (.invokevirtual 310, 3) := by decide +kernel
theorem dX3_digest_133 : decode cX3_digest 133 = .ok (.lreturn, 1) := by decide +kernel
theorem dX3_refuse_0 : decode cX3_refuse 0 = .ok (.iload_n 0, 1) := by decide +kernel
theorem dX3_refuse_1 : decode cX3_refuse 1 = .ok (.iconst 1, 1) := by decide +kernel
theorem dX3_refuse_2 : decode cX3_refuse 2 = .ok (.if_icmp .ne 14, 3) := by decide +kernel
theorem dX3_refuse_5 : decode cX3_refuse 5 = .ok (.new 164, 3) := by decide +kernel
theorem dX3_refuse_8 : decode cX3_refuse 8 = .ok (.dup, 1) := by decide +kernel
theorem dX3_refuse_9 : decode cX3_refuse 9 = .ok (.ldc_w 313, 3) := by decide +kernel
theorem dX3_refuse_12 : decode cX3_refuse 12 = .ok (.invokespecial 168, 3) := by decide +kernel
theorem dX3_refuse_15 : decode cX3_refuse 15 = .ok (.athrow, 1) := by decide +kernel
theorem dX3_refuse_16 : decode cX3_refuse 16 = .ok (.iload_n 0, 1) := by decide +kernel
theorem dX3_refuse_17 : decode cX3_refuse 17 = .ok (.iconst 2, 1) := by decide +kernel
theorem dX3_refuse_18 : decode cX3_refuse 18 = .ok (.if_icmp .ne 14, 3) := by decide +kernel
theorem dX3_refuse_21 : decode cX3_refuse 21 = .ok (.new 106, 3) := by decide +kernel
theorem dX3_refuse_24 : decode cX3_refuse 24 = .ok (.dup, 1) := by decide +kernel
theorem dX3_refuse_25 : decode cX3_refuse 25 = .ok (.ldc_w 315, 3) := by decide +kernel
theorem dX3_refuse_28 : decode cX3_refuse 28 = .ok (.invokespecial 110, 3) := by decide +kernel
theorem dX3_refuse_31 : decode cX3_refuse 31 = .ok (.athrow, 1) := by decide +kernel
theorem dX3_refuse_32 : decode cX3_refuse 32 = .ok (.iload_n 0, 1) := by decide +kernel
theorem dX3_refuse_33 : decode cX3_refuse 33 = .ok (.iconst 3, 1) := by decide +kernel
theorem dX3_refuse_34 : decode cX3_refuse 34 = .ok (.if_icmp .ne 14, 3) := by decide +kernel
theorem dX3_refuse_37 : decode cX3_refuse 37 = .ok (.new 62, 3) := by decide +kernel
theorem dX3_refuse_40 : decode cX3_refuse 40 = .ok (.dup, 1) := by decide +kernel
theorem dX3_refuse_41 : decode cX3_refuse 41 = .ok (.ldc_w 317, 3) := by decide +kernel
theorem dX3_refuse_44 : decode cX3_refuse 44 = .ok (.invokespecial 66, 3) := by decide +kernel
theorem dX3_refuse_47 : decode cX3_refuse 47 = .ok (.athrow, 1) := by decide +kernel
theorem dX3_refuse_48 : decode cX3_refuse 48 = .ok (.return_, 1) := by decide +kernel
theorem dX3_copy_0 : decode cX3_copy 0 = .ok (.aload_n 0, 1) := by decide +kernel
theorem dX3_copy_1 : decode cX3_copy 1 = .ok (.ifnull 12, 3) := by decide +kernel
theorem dX3_copy_4 : decode cX3_copy 4 = .ok (.aload_n 1, 1) := by decide +kernel
theorem dX3_copy_5 : decode cX3_copy 5 = .ok (.ifnull 8, 3) := by decide +kernel
theorem dX3_copy_8 : decode cX3_copy 8 = .ok (.aload_n 1, 1) := by decide +kernel
theorem dX3_copy_9 : decode cX3_copy 9 = .ok (.aload_n 0, 1) := by decide +kernel
theorem dX3_copy_10 : decode cX3_copy 10 = .ok (.invokevirtual 319, 3) := by decide +kernel
theorem dX3_copy_13 : decode cX3_copy 13 = .ok (.return_, 1) := by decide +kernel
theorem dX3_save_0 : decode cX3_save 0 = .ok (.aload_n 0, 1) := by decide +kernel
theorem dX3_save_1 : decode cX3_save 1 = .ok (.getfield 37, 3) := by decide +kernel
theorem dX3_save_4 : decode cX3_save 4 = .ok (.iconst 5, 1) := by decide +kernel
theorem dX3_save_5 : decode cX3_save 5 = .ok (.if_icmp .lt 7, 3) := by decide +kernel
theorem dX3_save_8 : decode cX3_save 8 = .ok (.aload_n 0, 1) := by decide +kernel
theorem dX3_save_9 : decode cX3_save 9 = .ok (.invokevirtual 323, 3) := by decide +kernel
theorem dX3_save_12 : decode cX3_save 12 = .ok (.aload_n 0, 1) := by decide +kernel
theorem dX3_save_13 : decode cX3_save 13 = .ok (.getfield 10, 3) := by decide +kernel
theorem dX3_save_16 : decode cX3_save 16 = .ok (.aload_n 0, 1) := by decide +kernel
theorem dX3_save_17 : decode cX3_save 17 = .ok (.getfield 19, 3) := by decide +kernel
theorem dX3_save_20 : decode cX3_save 20 = .ok (.aload_n 0, 1) := by decide +kernel
theorem dX3_save_21 : decode cX3_save 21 = .ok (.getfield 37, 3) := by decide +kernel
theorem dX3_save_24 : decode cX3_save 24 = .ok (.aaload, 1) := by decide +kernel
theorem dX3_save_25 : decode cX3_save 25 = .ok (.invokestatic 147, 3) := by decide +kernel
theorem dX3_save_28 : decode cX3_save 28 = .ok (.aload_n 0, 1) := by decide +kernel
theorem dX3_save_29 : decode cX3_save 29 = .ok (.dup, 1) := by decide +kernel
theorem dX3_save_30 : decode cX3_save 30 = .ok (.getfield 37, 3) := by decide +kernel
theorem dX3_save_33 : decode cX3_save 33 = .ok (.iconst 1, 1) := by decide +kernel
theorem dX3_save_34 : decode cX3_save 34 = .ok (.iadd, 1) := by decide +kernel
theorem dX3_save_35 : decode cX3_save 35 = .ok (.putfield 37, 3) := by decide +kernel
theorem dX3_save_38 : decode cX3_save 38 = .ok (.return_, 1) := by decide +kernel
theorem dX3_dropOldestSaved_0 : decode cX3_dropOldestSaved 0 = .ok (.aload_n 0, 1) := by decide +kernel
theorem dX3_dropOldestSaved_1 : decode cX3_dropOldestSaved 1 = .ok (.getfield 19, 3) := by decide +kernel
theorem dX3_dropOldestSaved_4 : decode cX3_dropOldestSaved 4 = .ok (.iconst 0, 1) := by decide +kernel
theorem dX3_dropOldestSaved_5 : decode cX3_dropOldestSaved 5 = .ok (.aaload, 1) := by decide +kernel
theorem dX3_dropOldestSaved_6 : decode cX3_dropOldestSaved 6 = .ok (.astore_n 1, 1) := by decide +kernel
theorem dX3_dropOldestSaved_7 : decode cX3_dropOldestSaved 7 = .ok (.iconst 1, 1) := by decide +kernel
theorem dX3_dropOldestSaved_8 : decode cX3_dropOldestSaved 8 = .ok (.istore_n 2, 1) := by decide +kernel
theorem dX3_dropOldestSaved_9 : decode cX3_dropOldestSaved 9 = .ok (.iload_n 2, 1) := by decide +kernel
theorem dX3_dropOldestSaved_10 : decode cX3_dropOldestSaved 10 = .ok (.iconst 5, 1) := by decide +kernel
theorem dX3_dropOldestSaved_11 : decode cX3_dropOldestSaved 11 = .ok (.if_icmp .ge 23, 3) := by decide +kernel
theorem dX3_dropOldestSaved_14 : decode cX3_dropOldestSaved 14 = .ok (.aload_n 0, 1) := by decide +kernel
theorem dX3_dropOldestSaved_15 : decode cX3_dropOldestSaved 15 = .ok (.getfield 19, 3) := by decide +kernel
theorem dX3_dropOldestSaved_18 : decode cX3_dropOldestSaved 18 = .ok (.iload_n 2, 1) := by decide +kernel
theorem dX3_dropOldestSaved_19 : decode cX3_dropOldestSaved 19 = .ok (.iconst 1, 1) := by decide +kernel
theorem dX3_dropOldestSaved_20 : decode cX3_dropOldestSaved 20 = .ok (.isub, 1) := by decide +kernel
theorem dX3_dropOldestSaved_21 : decode cX3_dropOldestSaved 21 = .ok (.aload_n 0, 1) := by decide +kernel
theorem dX3_dropOldestSaved_22 : decode cX3_dropOldestSaved 22 = .ok (.getfield 19, 3) := by decide +kernel
theorem dX3_dropOldestSaved_25 : decode cX3_dropOldestSaved 25 = .ok (.iload_n 2, 1) := by decide +kernel
theorem dX3_dropOldestSaved_26 : decode cX3_dropOldestSaved 26 = .ok (.aaload, 1) := by decide +kernel
theorem dX3_dropOldestSaved_27 : decode cX3_dropOldestSaved 27 = .ok (.aastore, 1) := by decide +kernel
theorem dX3_dropOldestSaved_28 : decode cX3_dropOldestSaved 28 = .ok (.iinc 2 1, 3) := by decide +kernel
theorem dX3_dropOldestSaved_31 : decode cX3_dropOldestSaved 31 = .ok (.goto (-22), 3) := by decide +kernel
theorem dX3_dropOldestSaved_34 : decode cX3_dropOldestSaved 34 = .ok (.aload_n 0, 1) := by decide +kernel
theorem dX3_dropOldestSaved_35 : decode cX3_dropOldestSaved 35 = .ok (.getfield 19, 3) := by decide +kernel
theorem dX3_dropOldestSaved_38 : decode cX3_dropOldestSaved 38 = .ok (.iconst 4, 1) := by decide +kernel
theorem dX3_dropOldestSaved_39 : decode cX3_dropOldestSaved 39 = .ok (.aload_n 1, 1) := by decide +kernel
theorem dX3_dropOldestSaved_40 : decode cX3_dropOldestSaved 40 = .ok (.aastore, 1) := by decide +kernel
theorem dX3_dropOldestSaved_41 : decode cX3_dropOldestSaved 41 = .ok (.aload_n 0, 1) := by decide +kernel
theorem dX3_dropOldestSaved_42 : decode cX3_dropOldestSaved 42 = .ok (.iconst 4, 1) := by decide +kernel
theorem dX3_dropOldestSaved_43 : decode cX3_dropOldestSaved 43 = .ok (.putfield 37, 3) := by decide +kernel
theorem dX3_dropOldestSaved_46 : decode cX3_dropOldestSaved 46 = .ok (.return_, 1) := by decide +kernel
theorem dX3_exploreNow_0 : decode cX3_exploreNow 0 = .ok (.aload_n 0, 1) := by decide +kernel
theorem dX3_exploreNow_1 : decode cX3_exploreNow 1 = .ok (.getfield 26, 3) := by decide +kernel
theorem dX3_exploreNow_4 : decode cX3_exploreNow 4 = .ok (.aload_n 0, 1) := by decide +kernel
theorem dX3_exploreNow_5 : decode cX3_exploreNow 5 = .ok (.getfield 10, 3) := by decide +kernel
theorem dX3_exploreNow_8 : decode cX3_exploreNow 8 = .ok (.aload_n 0, 1) := by decide +kernel
theorem dX3_exploreNow_9 : decode cX3_exploreNow 9 = .ok (.getfield 10, 3) := by decide +kernel
theorem dX3_exploreNow_12 : decode cX3_exploreNow 12 = .ok (.getfield 59, 3) := by decide +kernel
theorem dX3_exploreNow_15 : decode cX3_exploreNow 15 = .ok (.aload_n 0, 1) := by decide +kernel
theorem dX3_exploreNow_16 : decode cX3_exploreNow 16 = .ok (.getfield 10, 3) := by decide +kernel
theorem dX3_exploreNow_19 : decode cX3_exploreNow 19 = .ok (.getfield 153, 3) := by decide +kernel
theorem dX3_exploreNow_22 : decode cX3_exploreNow 22 = .ok (.invokevirtual 271, 3) := by decide +kernel
theorem dX3_exploreNow_25 : decode cX3_exploreNow 25 = .ok (.return_, 1) := by decide +kernel
theorem dX3_hasNextSlide_0 : decode cX3_hasNextSlide 0 = .ok (.aload_n 0, 1) := by decide +kernel
theorem dX3_hasNextSlide_1 : decode cX3_hasNextSlide 1 = .ok (.invokevirtual 219, 3) := by decide +kernel
theorem dX3_hasNextSlide_4 : decode cX3_hasNextSlide 4 = .ok (.aload_n 0, 1) := by decide +kernel
theorem dX3_hasNextSlide_5 : decode cX3_hasNextSlide 5 = .ok (.getfield 26, 3) := by decide +kernel
theorem dX3_hasNextSlide_8 : decode cX3_hasNextSlide 8 = .ok (.invokevirtual 225, 3) := by decide +kernel
theorem dX3_hasNextSlide_11 : decode cX3_hasNextSlide 11 = .ok (.pop, 1) := by decide +kernel
theorem dX3_hasNextSlide_12 : decode cX3_hasNextSlide 12 = .ok (.aload_n 0, 1) := by decide +kernel
theorem dX3_hasNextSlide_13 : decode cX3_hasNextSlide 13 = .ok (.getfield 26, 3) := by decide +kernel
theorem dX3_hasNextSlide_16 : decode cX3_hasNextSlide 16 = .ok (.aload_n 0, 1) := by decide +kernel
theorem dX3_hasNextSlide_17 : decode cX3_hasNextSlide 17 = .ok (.getfield 26, 3) := by decide +kernel
theorem dX3_hasNextSlide_20 : decode cX3_hasNextSlide 20 = .ok (.getfield 263, 3) := by decide +kernel
theorem dX3_hasNextSlide_23 : decode cX3_hasNextSlide 23 = .ok (.invokevirtual 326, 3) := by decide +kernel
theorem dX3_hasNextSlide_26 : decode cX3_hasNextSlide 26 = .ok (.ireturn, 1) := by decide +kernel
theorem dX3_slidesToDriveOut_0 : decode cX3_slidesToDriveOut 0 = .ok (.aload_n 0, 1) := by decide +kernel
theorem dX3_slidesToDriveOut_1 : decode cX3_slidesToDriveOut 1 = .ok (.invokevirtual 219, 3) := by decide +kernel
theorem dX3_slidesToDriveOut_4 : decode cX3_slidesToDriveOut 4 = .ok (.aload_n 0, 1) := by decide +kernel
theorem dX3_slidesToDriveOut_5 : decode cX3_slidesToDriveOut 5 = .ok (.getfield 26, 3) := by decide +kernel
theorem dX3_slidesToDriveOut_8 : decode cX3_slidesToDriveOut 8 = .ok (.invokevirtual 225, 3) := by decide +kernel
theorem dX3_slidesToDriveOut_11 : decode cX3_slidesToDriveOut 11 = .ok (.istore_n 1, 1) := by decide +kernel
theorem dX3_slidesToDriveOut_12 : decode cX3_slidesToDriveOut 12 = .ok (.aload_n 0, 1) := by decide +kernel
theorem dX3_slidesToDriveOut_13 : decode cX3_slidesToDriveOut 13 = .ok (.getfield 10, 3) := by decide +kernel
theorem dX3_slidesToDriveOut_16 : decode cX3_slidesToDriveOut 16 = .ok (.getfield 85, 3) := by decide +kernel
theorem dX3_slidesToDriveOut_19 : decode cX3_slidesToDriveOut 19 = .ok (.iload_n 1, 1) := by decide +kernel
theorem dX3_slidesToDriveOut_20 : decode cX3_slidesToDriveOut 20 = .ok (.iadd, 1) := by decide +kernel
theorem dX3_slidesToDriveOut_21 : decode cX3_slidesToDriveOut 21 = .ok (.bipush 60, 2) := by decide +kernel
theorem dX3_slidesToDriveOut_23 : decode cX3_slidesToDriveOut 23 = .ok (.if_icmp .le 7, 3) := by decide +kernel
theorem dX3_slidesToDriveOut_26 : decode cX3_slidesToDriveOut 26 = .ok (.iconst (-1), 1) := by decide +kernel
theorem dX3_slidesToDriveOut_27 : decode cX3_slidesToDriveOut 27 = .ok (.goto 4, 3) := by decide +kernel
theorem dX3_slidesToDriveOut_30 : decode cX3_slidesToDriveOut 30 = .ok (.iload_n 1, 1) := by decide +kernel
theorem dX3_slidesToDriveOut_31 : decode cX3_slidesToDriveOut 31 = .ok (.ireturn, 1) := by decide +kernel
theorem dX3_makePlan_0 : decode cX3_makePlan 0 = .ok (.aload_n 0, 1) := by decide +kernel
theorem dX3_makePlan_1 : decode cX3_makePlan 1 = .ok (.getfield 26, 3) := by decide +kernel
theorem dX3_makePlan_4 : decode cX3_makePlan 4 = .ok (.getfield 263, 3) := by decide +kernel
theorem dX3_makePlan_7 : decode cX3_makePlan 7 = .ok (.istore_n 2, 1) := by decide +kernel
theorem dX3_makePlan_8 : decode cX3_makePlan 8 = .ok (.iconst 0, 1) := by decide +kernel
theorem dX3_makePlan_9 : decode cX3_makePlan 9 = .ok (.istore_n 3, 1) := by decide +kernel
theorem dX3_makePlan_10 : decode cX3_makePlan 10 = .ok (.iload_n 3, 1) := by decide +kernel
theorem dX3_makePlan_11 : decode cX3_makePlan 11 = .ok (.iload_n 1, 1) := by decide +kernel
theorem dX3_makePlan_12 : decode cX3_makePlan 12 = .ok (.if_icmp .ge 63, 3) := by decide +kernel
theorem dX3_makePlan_15 : decode cX3_makePlan 15 = .ok (.aload_n 0, 1) := by decide +kernel
theorem dX3_makePlan_16 : decode cX3_makePlan 16 = .ok (.getfield 26, 3) := by decide +kernel
theorem dX3_makePlan_19 : decode cX3_makePlan 19 = .ok (.iload_n 2, 1) := by decide +kernel
theorem dX3_makePlan_20 : decode cX3_makePlan 20 = .ok (.invokevirtual 326, 3) := by decide +kernel
theorem dX3_makePlan_23 : decode cX3_makePlan 23 = .ok (.ifCond .eq 52, 3) := by decide +kernel
theorem dX3_makePlan_26 : decode cX3_makePlan 26 = .ok (.aload_n 0, 1) := by decide +kernel
theorem dX3_makePlan_27 : decode cX3_makePlan 27 = .ok (.getfield 26, 3) := by decide +kernel
theorem dX3_makePlan_30 : decode cX3_makePlan 30 = .ok (.getfield 242, 3) := by decide +kernel
theorem dX3_makePlan_33 : decode cX3_makePlan 33 = .ok (.istore 4, 2) := by decide +kernel
theorem dX3_makePlan_35 : decode cX3_makePlan 35 = .ok (.aload_n 0, 1) := by decide +kernel
theorem dX3_makePlan_36 : decode cX3_makePlan 36 = .ok (.getfield 26, 3) := by decide +kernel
theorem dX3_makePlan_39 : decode cX3_makePlan 39 = .ok (.getfield 245, 3) := by decide +kernel
theorem dX3_makePlan_42 : decode cX3_makePlan 42 = .ok (.istore 5, 2) := by decide +kernel
theorem dX3_makePlan_44 : decode cX3_makePlan 44 = .ok (.aload_n 0, 1) := by decide +kernel
theorem dX3_makePlan_45 : decode cX3_makePlan 45 = .ok (.getfield 10, 3) := by decide +kernel
theorem dX3_makePlan_48 : decode cX3_makePlan 48 = .ok (.iload 4, 2) := by decide +kernel
theorem dX3_makePlan_50 : decode cX3_makePlan 50 = .ok (.iload 5, 2) := by decide +kernel
theorem dX3_makePlan_52 : decode cX3_makePlan 52 = .ok (.invokevirtual 90, 3) := by decide +kernel
theorem dX3_makePlan_55 : decode cX3_makePlan 55 = .ok (.pop, 1) := by decide +kernel
theorem dX3_makePlan_56 : decode cX3_makePlan 56 = .ok (.aload_n 0, 1) := by decide +kernel
end
section
theorem dX3_makePlan_57 : decode cX3_makePlan 57 = .ok (.getfield 26, 3) := by decide +kernel
theorem dX3_makePlan_60 : decode cX3_makePlan 60 = .ok (.iload_n 2, 1) := by decide +kernel
theorem dX3_makePlan_61 : decode cX3_makePlan 61 = .ok (.iload 4, 2) := by decide +kernel
theorem dX3_makePlan_63 : decode cX3_makePlan 63 = .ok (.iload 5, 2) := by decide +kernel
theorem dX3_makePlan_65 : decode cX3_makePlan 65 = .ok (.invokevirtual 266, 3) := by decide +kernel
theorem dX3_makePlan_68 : decode cX3_makePlan 68 = .ok (.istore_n 2, 1) := by decide +kernel
theorem dX3_makePlan_69 : decode cX3_makePlan 69 = .ok (.iinc 3 1, 3) := by decide +kernel
theorem dX3_makePlan_72 : decode cX3_makePlan 72 = .ok (.goto (-62), 3) := by decide +kernel
theorem dX3_makePlan_75 : decode cX3_makePlan 75 = .ok (.iload_n 1, 1) := by decide +kernel
theorem dX3_makePlan_76 : decode cX3_makePlan 76 = .ok (.ifCond .lt 7, 3) := by decide +kernel
theorem dX3_makePlan_79 : decode cX3_makePlan 79 = .ok (.iconst 1, 1) := by decide +kernel
theorem dX3_makePlan_80 : decode cX3_makePlan 80 = .ok (.goto 4, 3) := by decide +kernel
theorem dX3_makePlan_83 : decode cX3_makePlan 83 = .ok (.iconst 0, 1) := by decide +kernel
theorem dX3_makePlan_84 : decode cX3_makePlan 84 = .ok (.ireturn, 1) := by decide +kernel
theorem dX3_tryPart_0 : decode cX3_tryPart 0 = .ok (.aload_n 0, 1) := by decide +kernel
theorem dX3_tryPart_1 : decode cX3_tryPart 1 = .ok (.getfield 33, 3) := by decide +kernel
theorem dX3_tryPart_4 : decode cX3_tryPart 4 = .ok (.iload_n 1, 1) := by decide +kernel
theorem dX3_tryPart_5 : decode cX3_tryPart 5 = .ok (.invokevirtual 329, 3) := by decide +kernel
theorem dX3_tryPart_8 : decode cX3_tryPart 8 = .ok (.lookupswitch 153 #[(98, 139), (100, 144), (104, 52), (118, 87), (119, 124)], 52) := by decide +kernel
theorem dX3_tryPart_60 : decode cX3_tryPart 60 = .ok (.aload_n 0, 1) := by decide +kernel
theorem dX3_tryPart_61 : decode cX3_tryPart 61 = .ok (.aload_n 0, 1) := by decide +kernel
theorem dX3_tryPart_62 : decode cX3_tryPart 62 = .ok (.getfield 33, 3) := by decide +kernel
theorem dX3_tryPart_65 : decode cX3_tryPart 65 = .ok (.iload_n 1, 1) := by decide +kernel
theorem dX3_tryPart_66 : decode cX3_tryPart 66 = .ok (.iconst 1, 1) := by decide +kernel
theorem dX3_tryPart_67 : decode cX3_tryPart 67 = .ok (.iadd, 1) := by decide +kernel
theorem dX3_tryPart_68 : decode cX3_tryPart 68 = .ok (.invokevirtual 332, 3) := by decide +kernel
theorem dX3_tryPart_71 : decode cX3_tryPart 71 = .ok (.aload_n 0, 1) := by decide +kernel
theorem dX3_tryPart_72 : decode cX3_tryPart 72 = .ok (.getfield 33, 3) := by decide +kernel
theorem dX3_tryPart_75 : decode cX3_tryPart 75 = .ok (.iload_n 1, 1) := by decide +kernel
theorem dX3_tryPart_76 : decode cX3_tryPart 76 = .ok (.iconst 3, 1) := by decide +kernel
theorem dX3_tryPart_77 : decode cX3_tryPart 77 = .ok (.iadd, 1) := by decide +kernel
theorem dX3_tryPart_78 : decode cX3_tryPart 78 = .ok (.invokevirtual 332, 3) := by decide +kernel
theorem dX3_tryPart_81 : decode cX3_tryPart 81 = .ok (.aload_n 0, 1) := by decide +kernel
theorem dX3_tryPart_82 : decode cX3_tryPart 82 = .ok (.getfield 33, 3) := by decide +kernel
theorem dX3_tryPart_85 : decode cX3_tryPart 85 = .ok (.iload_n 1, 1) := by decide +kernel
theorem dX3_tryPart_86 : decode cX3_tryPart 86 = .ok (.iconst 5, 1) := by decide +kernel
theorem dX3_tryPart_87 : decode cX3_tryPart 87 = .ok (.iadd, 1) := by decide +kernel
theorem dX3_tryPart_88 : decode cX3_tryPart 88 = .ok (.invokevirtual 332, 3) := by decide +kernel
theorem dX3_tryPart_91 : decode cX3_tryPart 91 = .ok (.invokevirtual 335, 3) := by decide +kernel
theorem dX3_tryPart_94 : decode cX3_tryPart 94 = .ok (.ireturn, 1) := by decide +kernel
theorem dX3_tryPart_95 : decode cX3_tryPart 95 = .ok (.aload_n 0, 1) := by decide +kernel
theorem dX3_tryPart_96 : decode cX3_tryPart 96 = .ok (.iconst 5, 1) := by decide +kernel
theorem dX3_tryPart_97 : decode cX3_tryPart 97 = .ok (.aload_n 0, 1) := by decide +kernel
theorem dX3_tryPart_98 : decode cX3_tryPart 98 = .ok (.getfield 33, 3) := by decide +kernel
theorem dX3_tryPart_101 : decode cX3_tryPart 101 = .ok (.iload_n 1, 1) := by decide +kernel
theorem dX3_tryPart_102 : decode cX3_tryPart 102 = .ok (.iconst 1, 1) := by decide +kernel
theorem dX3_tryPart_103 : decode cX3_tryPart 103 = .ok (.iadd, 1) := by decide +kernel
theorem dX3_tryPart_104 : decode cX3_tryPart 104 = .ok (.invokevirtual 332, 3) := by decide +kernel
theorem dX3_tryPart_107 : decode cX3_tryPart 107 = .ok (.iadd, 1) := by decide +kernel
theorem dX3_tryPart_108 : decode cX3_tryPart 108 = .ok (.aload_n 0, 1) := by decide +kernel
theorem dX3_tryPart_109 : decode cX3_tryPart 109 = .ok (.getfield 33, 3) := by decide +kernel
theorem dX3_tryPart_112 : decode cX3_tryPart 112 = .ok (.iload_n 1, 1) := by decide +kernel
theorem dX3_tryPart_113 : decode cX3_tryPart 113 = .ok (.iconst 3, 1) := by decide +kernel
theorem dX3_tryPart_114 : decode cX3_tryPart 114 = .ok (.iadd, 1) := by decide +kernel
theorem dX3_tryPart_115 : decode cX3_tryPart 115 = .ok (.invokevirtual 332, 3) := by decide +kernel
theorem dX3_tryPart_118 : decode cX3_tryPart 118 = .ok (.aload_n 0, 1) := by decide +kernel
theorem dX3_tryPart_119 : decode cX3_tryPart 119 = .ok (.getfield 33, 3) := by decide +kernel
theorem dX3_tryPart_122 : decode cX3_tryPart 122 = .ok (.iload_n 1, 1) := by decide +kernel
theorem dX3_tryPart_123 : decode cX3_tryPart 123 = .ok (.iconst 5, 1) := by decide +kernel
theorem dX3_tryPart_124 : decode cX3_tryPart 124 = .ok (.iadd, 1) := by decide +kernel
theorem dX3_tryPart_125 : decode cX3_tryPart 125 = .ok (.invokevirtual 332, 3) := by decide +kernel
theorem dX3_tryPart_128 : decode cX3_tryPart 128 = .ok (.invokevirtual 335, 3) := by decide +kernel
theorem dX3_tryPart_131 : decode cX3_tryPart 131 = .ok (.ireturn, 1) := by decide +kernel
theorem dX3_tryPart_132 : decode cX3_tryPart 132 = .ok (.aload_n 0, 1) := by decide +kernel
theorem dX3_tryPart_133 : decode cX3_tryPart 133 = .ok (.aload_n 0, 1) := by decide +kernel
theorem dX3_tryPart_134 : decode cX3_tryPart 134 = .ok (.getfield 33, 3) := by decide +kernel
theorem dX3_tryPart_137 : decode cX3_tryPart 137 = .ok (.iload_n 1, 1) := by decide +kernel
theorem dX3_tryPart_138 : decode cX3_tryPart 138 = .ok (.iconst 1, 1) := by decide +kernel
theorem dX3_tryPart_139 : decode cX3_tryPart 139 = .ok (.iadd, 1) := by decide +kernel
theorem dX3_tryPart_140 : decode cX3_tryPart 140 = .ok (.invokevirtual 339, 3) := by decide +kernel
theorem dX3_tryPart_143 : decode cX3_tryPart 143 = .ok (.invokevirtual 342, 3) := by decide +kernel
theorem dX3_tryPart_146 : decode cX3_tryPart 146 = .ok (.ireturn, 1) := by decide +kernel
theorem dX3_tryPart_147 : decode cX3_tryPart 147 = .ok (.aload_n 0, 1) := by decide +kernel
theorem dX3_tryPart_148 : decode cX3_tryPart 148 = .ok (.invokevirtual 345, 3) := by decide +kernel
theorem dX3_tryPart_151 : decode cX3_tryPart 151 = .ok (.ireturn, 1) := by decide +kernel
theorem dX3_tryPart_152 : decode cX3_tryPart 152 = .ok (.aload_n 0, 1) := by decide +kernel
theorem dX3_tryPart_153 : decode cX3_tryPart 153 = .ok (.aload_n 0, 1) := by decide +kernel
theorem dX3_tryPart_154 : decode cX3_tryPart 154 = .ok (.invokevirtual 98, 3) := by decide +kernel
theorem dX3_tryPart_157 : decode cX3_tryPart 157 = .ok (.invokevirtual 103, 3) := by decide +kernel
theorem dX3_tryPart_160 : decode cX3_tryPart 160 = .ok (.ireturn, 1) := by decide +kernel
theorem dX3_tryPart_161 : decode cX3_tryPart 161 = .ok (.aload_n 0, 1) := by decide +kernel
theorem dX3_tryPart_162 : decode cX3_tryPart 162 = .ok (.aload_n 0, 1) := by decide +kernel
theorem dX3_tryPart_163 : decode cX3_tryPart 163 = .ok (.getfield 33, 3) := by decide +kernel
theorem dX3_tryPart_166 : decode cX3_tryPart 166 = .ok (.iload_n 1, 1) := by decide +kernel
theorem dX3_tryPart_167 : decode cX3_tryPart 167 = .ok (.invokevirtual 332, 3) := by decide +kernel
theorem dX3_tryPart_170 : decode cX3_tryPart 170 = .ok (.aload_n 0, 1) := by decide +kernel
theorem dX3_tryPart_171 : decode cX3_tryPart 171 = .ok (.getfield 33, 3) := by decide +kernel
theorem dX3_tryPart_174 : decode cX3_tryPart 174 = .ok (.iload_n 1, 1) := by decide +kernel
theorem dX3_tryPart_175 : decode cX3_tryPart 175 = .ok (.iconst 1, 1) := by decide +kernel
theorem dX3_tryPart_176 : decode cX3_tryPart 176 = .ok (.iadd, 1) := by decide +kernel
theorem dX3_tryPart_177 : decode cX3_tryPart 177 = .ok (.invokevirtual 348, 3) := by decide +kernel
theorem dX3_tryPart_180 : decode cX3_tryPart 180 = .ok (.aload_n 0, 1) := by decide +kernel
theorem dX3_tryPart_181 : decode cX3_tryPart 181 = .ok (.getfield 33, 3) := by decide +kernel
theorem dX3_tryPart_184 : decode cX3_tryPart 184 = .ok (.iload_n 1, 1) := by decide +kernel
theorem dX3_tryPart_185 : decode cX3_tryPart 185 = .ok (.iconst 2, 1) := by decide +kernel
theorem dX3_tryPart_186 : decode cX3_tryPart 186 = .ok (.iadd, 1) := by decide +kernel
theorem dX3_tryPart_187 : decode cX3_tryPart 187 = .ok (.invokevirtual 332, 3) := by decide +kernel
theorem dX3_tryPart_190 : decode cX3_tryPart 190 = .ok (.imul, 1) := by decide +kernel
theorem dX3_tryPart_191 : decode cX3_tryPart 191 = .ok (.invokevirtual 351, 3) := by decide +kernel
theorem dX3_tryPart_194 : decode cX3_tryPart 194 = .ok (.ireturn, 1) := by decide +kernel
theorem dX3_tryEntering_0 : decode cX3_tryEntering 0 = .ok (.aload_n 0, 1) := by decide +kernel
theorem dX3_tryEntering_1 : decode cX3_tryEntering 1 = .ok (.getfield 10, 3) := by decide +kernel
theorem dX3_tryEntering_4 : decode cX3_tryEntering 4 = .ok (.iload_n 1, 1) := by decide +kernel
theorem dX3_tryEntering_5 : decode cX3_tryEntering 5 = .ok (.iload_n 2, 1) := by decide +kernel
theorem dX3_tryEntering_6 : decode cX3_tryEntering 6 = .ok (.iload_n 3, 1) := by decide +kernel
theorem dX3_tryEntering_7 : decode cX3_tryEntering 7 = .ok (.invokevirtual 45, 3) := by decide +kernel
theorem dX3_tryEntering_10 : decode cX3_tryEntering 10 = .ok (.ifCond .ne 7, 3) := by decide +kernel
theorem dX3_tryEntering_13 : decode cX3_tryEntering 13 = .ok (.iconst 1, 1) := by decide +kernel
theorem dX3_tryEntering_14 : decode cX3_tryEntering 14 = .ok (.goto 4, 3) := by decide +kernel
theorem dX3_tryEntering_17 : decode cX3_tryEntering 17 = .ok (.iconst 0, 1) := by decide +kernel
theorem dX3_tryEntering_18 : decode cX3_tryEntering 18 = .ok (.istore 4, 2) := by decide +kernel
theorem dX3_tryEntering_20 : decode cX3_tryEntering 20 = .ok (.iload 4, 2) := by decide +kernel
theorem dX3_tryEntering_22 : decode cX3_tryEntering 22 = .ok (.ifCond .eq 14, 3) := by decide +kernel
theorem dX3_tryEntering_25 : decode cX3_tryEntering 25 = .ok (.aload_n 0, 1) := by decide +kernel
theorem dX3_tryEntering_26 : decode cX3_tryEntering 26 = .ok (.getfield 10, 3) := by decide +kernel
theorem dX3_tryEntering_29 : decode cX3_tryEntering 29 = .ok (.iload_n 1, 1) := by decide +kernel
theorem dX3_tryEntering_30 : decode cX3_tryEntering 30 = .ok (.iload_n 2, 1) := by decide +kernel
theorem dX3_tryEntering_31 : decode cX3_tryEntering 31 = .ok (.iload_n 3, 1) := by decide +kernel
theorem dX3_tryEntering_32 : decode cX3_tryEntering 32 = .ok (.invokevirtual 56, 3) := by decide +kernel
theorem dX3_tryEntering_35 : decode cX3_tryEntering 35 = .ok (.pop, 1) := by decide +kernel
theorem dX3_tryEntering_36 : decode cX3_tryEntering 36 = .ok (.iload 4, 2) := by decide +kernel
theorem dX3_tryEntering_38 : decode cX3_tryEntering 38 = .ok (.ireturn, 1) := by decide +kernel
theorem dX3_tryWall_0 : decode cX3_tryWall 0 = .ok (.aload_n 0, 1) := by decide +kernel
theorem dX3_tryWall_1 : decode cX3_tryWall 1 = .ok (.getfield 10, 3) := by decide +kernel
theorem dX3_tryWall_4 : decode cX3_tryWall 4 = .ok (.iload_n 1, 1) := by decide +kernel
theorem dX3_tryWall_5 : decode cX3_tryWall 5 = .ok (.invokevirtual 73, 3) := by decide +kernel
theorem dX3_tryWall_8 : decode cX3_tryWall 8 = .ok (.ifCond .ne 7, 3) := by decide +kernel
theorem dX3_tryWall_11 : decode cX3_tryWall 11 = .ok (.iconst 1, 1) := by decide +kernel
theorem dX3_tryWall_12 : decode cX3_tryWall 12 = .ok (.goto 4, 3) := by decide +kernel
theorem dX3_tryWall_15 : decode cX3_tryWall 15 = .ok (.iconst 0, 1) := by decide +kernel
theorem dX3_tryWall_16 : decode cX3_tryWall 16 = .ok (.istore_n 2, 1) := by decide +kernel
theorem dX3_tryWall_17 : decode cX3_tryWall 17 = .ok (.iload_n 2, 1) := by decide +kernel
theorem dX3_tryWall_18 : decode cX3_tryWall 18 = .ok (.ifCond .eq 12, 3) := by decide +kernel
theorem dX3_tryWall_21 : decode cX3_tryWall 21 = .ok (.aload_n 0, 1) := by decide +kernel
theorem dX3_tryWall_22 : decode cX3_tryWall 22 = .ok (.getfield 10, 3) := by decide +kernel
theorem dX3_tryWall_25 : decode cX3_tryWall 25 = .ok (.iload_n 1, 1) := by decide +kernel
theorem dX3_tryWall_26 : decode cX3_tryWall 26 = .ok (.invokevirtual 77, 3) := by decide +kernel
theorem dX3_tryWall_29 : decode cX3_tryWall 29 = .ok (.pop, 1) := by decide +kernel
theorem dX3_tryWall_30 : decode cX3_tryWall 30 = .ok (.iload_n 2, 1) := by decide +kernel
theorem dX3_tryWall_31 : decode cX3_tryWall 31 = .ok (.ireturn, 1) := by decide +kernel
theorem dX3_trySliding_0 : decode cX3_trySliding 0 = .ok (.aload_n 0, 1) := by decide +kernel
theorem dX3_trySliding_1 : decode cX3_trySliding 1 = .ok (.getfield 10, 3) := by decide +kernel
theorem dX3_trySliding_4 : decode cX3_trySliding 4 = .ok (.iload_n 1, 1) := by decide +kernel
theorem dX3_trySliding_5 : decode cX3_trySliding 5 = .ok (.iload_n 2, 1) := by decide +kernel
theorem dX3_trySliding_6 : decode cX3_trySliding 6 = .ok (.invokevirtual 81, 3) := by decide +kernel
theorem dX3_trySliding_9 : decode cX3_trySliding 9 = .ok (.ifCond .ne 19, 3) := by decide +kernel
theorem dX3_trySliding_12 : decode cX3_trySliding 12 = .ok (.aload_n 0, 1) := by decide +kernel
theorem dX3_trySliding_13 : decode cX3_trySliding 13 = .ok (.getfield 10, 3) := by decide +kernel
theorem dX3_trySliding_16 : decode cX3_trySliding 16 = .ok (.getfield 85, 3) := by decide +kernel
theorem dX3_trySliding_19 : decode cX3_trySliding 19 = .ok (.bipush 60, 2) := by decide +kernel
theorem dX3_trySliding_21 : decode cX3_trySliding 21 = .ok (.if_icmp .ge 7, 3) := by decide +kernel
theorem dX3_trySliding_24 : decode cX3_trySliding 24 = .ok (.iconst 1, 1) := by decide +kernel
theorem dX3_trySliding_25 : decode cX3_trySliding 25 = .ok (.goto 4, 3) := by decide +kernel
theorem dX3_trySliding_28 : decode cX3_trySliding 28 = .ok (.iconst 0, 1) := by decide +kernel
theorem dX3_trySliding_29 : decode cX3_trySliding 29 = .ok (.istore_n 3, 1) := by decide +kernel
theorem dX3_trySliding_30 : decode cX3_trySliding 30 = .ok (.iload_n 3, 1) := by decide +kernel
theorem dX3_trySliding_31 : decode cX3_trySliding 31 = .ok (.ifCond .eq 13, 3) := by decide +kernel
theorem dX3_trySliding_34 : decode cX3_trySliding 34 = .ok (.aload_n 0, 1) := by decide +kernel
theorem dX3_trySliding_35 : decode cX3_trySliding 35 = .ok (.getfield 10, 3) := by decide +kernel
theorem dX3_trySliding_38 : decode cX3_trySliding 38 = .ok (.iload_n 1, 1) := by decide +kernel
theorem dX3_trySliding_39 : decode cX3_trySliding 39 = .ok (.iload_n 2, 1) := by decide +kernel
theorem dX3_trySliding_40 : decode cX3_trySliding 40 = .ok (.invokevirtual 90, 3) := by decide +kernel
theorem dX3_trySliding_43 : decode cX3_trySliding 43 = .ok (.pop, 1) := by decide +kernel
theorem dX3_trySliding_44 : decode cX3_trySliding 44 = .ok (.iload_n 3, 1) := by decide +kernel
theorem dX3_trySliding_45 : decode cX3_trySliding 45 = .ok (.ireturn, 1) := by decide +kernel
theorem dX3_tryTakingBack_0 : decode cX3_tryTakingBack 0 = .ok (.aload_n 0, 1) := by decide +kernel
theorem dX3_tryTakingBack_1 : decode cX3_tryTakingBack 1 = .ok (.getfield 10, 3) := by decide +kernel
theorem dX3_tryTakingBack_4 : decode cX3_tryTakingBack 4 = .ok (.getfield 85, 3) := by decide +kernel
theorem dX3_tryTakingBack_7 : decode cX3_tryTakingBack 7 = .ok (.ifCond .le 7, 3) := by decide +kernel
theorem dX3_tryTakingBack_10 : decode cX3_tryTakingBack 10 = .ok (.iconst 1, 1) := by decide +kernel
theorem dX3_tryTakingBack_11 : decode cX3_tryTakingBack 11 = .ok (.goto 4, 3) := by decide +kernel
theorem dX3_tryTakingBack_14 : decode cX3_tryTakingBack 14 = .ok (.iconst 0, 1) := by decide +kernel
theorem dX3_tryTakingBack_15 : decode cX3_tryTakingBack 15 = .ok (.istore_n 1, 1) := by decide +kernel
theorem dX3_tryTakingBack_16 : decode cX3_tryTakingBack 16 = .ok (.iload_n 1, 1) := by decide +kernel
theorem dX3_tryTakingBack_17 : decode cX3_tryTakingBack 17 = .ok (.ifCond .eq 11, 3) := by decide +kernel
theorem dX3_tryTakingBack_20 : decode cX3_tryTakingBack 20 = .ok (.aload_n 0, 1) := by decide +kernel
theorem dX3_tryTakingBack_21 : decode cX3_tryTakingBack 21 = .ok (.getfield 10, 3) := by decide +kernel
theorem dX3_tryTakingBack_24 : decode cX3_tryTakingBack 24 = .ok (.invokevirtual 95, 3) := by decide +kernel
theorem dX3_tryTakingBack_27 : decode cX3_tryTakingBack 27 = .ok (.pop, 1) := by decide +kernel
theorem dX3_tryTakingBack_28 : decode cX3_tryTakingBack 28 = .ok (.iload_n 1, 1) := by decide +kernel
theorem dX3_tryTakingBack_29 : decode cX3_tryTakingBack 29 = .ok (.ireturn, 1) := by decide +kernel
theorem dX3_isCell_0 : decode cX3_isCell 0 = .ok (.iload_n 0, 1) := by decide +kernel
theorem dX3_isCell_1 : decode cX3_isCell 1 = .ok (.ifCond .lt 13, 3) := by decide +kernel
theorem dX3_isCell_4 : decode cX3_isCell 4 = .ok (.iload_n 0, 1) := by decide +kernel
theorem dX3_isCell_5 : decode cX3_isCell 5 = .ok (.bipush 25, 2) := by decide +kernel
theorem dX3_isCell_7 : decode cX3_isCell 7 = .ok (.if_icmp .ge 7, 3) := by decide +kernel
theorem dX3_isCell_10 : decode cX3_isCell 10 = .ok (.iconst 1, 1) := by decide +kernel
theorem dX3_isCell_11 : decode cX3_isCell 11 = .ok (.goto 4, 3) := by decide +kernel
theorem dX3_isCell_14 : decode cX3_isCell 14 = .ok (.iconst 0, 1) := by decide +kernel
theorem dX3_isCell_15 : decode cX3_isCell 15 = .ok (.ireturn, 1) := by decide +kernel
theorem dX3_bitOf_0 : decode cX3_bitOf 0 = .ok (.iload_n 0, 1) := by decide +kernel
theorem dX3_bitOf_1 : decode cX3_bitOf 1 = .ok (.iconst 5, 1) := by decide +kernel
theorem dX3_bitOf_2 : decode cX3_bitOf 2 = .ok (.if_icmp .ge 13, 3) := by decide +kernel
theorem dX3_bitOf_5 : decode cX3_bitOf 5 = .ok (.iconst 1, 1) := by decide +kernel
theorem dX3_bitOf_6 : decode cX3_bitOf 6 = .ok (.iconst 5, 1) := by decide +kernel
theorem dX3_bitOf_7 : decode cX3_bitOf 7 = .ok (.iload_n 0, 1) := by decide +kernel
theorem dX3_bitOf_8 : decode cX3_bitOf 8 = .ok (.imul, 1) := by decide +kernel
theorem dX3_bitOf_9 : decode cX3_bitOf 9 = .ok (.iload_n 1, 1) := by decide +kernel
theorem dX3_bitOf_10 : decode cX3_bitOf 10 = .ok (.iadd, 1) := by decide +kernel
theorem dX3_bitOf_11 : decode cX3_bitOf 11 = .ok (.ishl, 1) := by decide +kernel
theorem dX3_bitOf_12 : decode cX3_bitOf 12 = .ok (.goto 12, 3) := by decide +kernel
theorem dX3_bitOf_15 : decode cX3_bitOf 15 = .ok (.iconst 1, 1) := by decide +kernel
theorem dX3_bitOf_16 : decode cX3_bitOf 16 = .ok (.iconst 5, 1) := by decide +kernel
theorem dX3_bitOf_17 : decode cX3_bitOf 17 = .ok (.iload_n 1, 1) := by decide +kernel
theorem dX3_bitOf_18 : decode cX3_bitOf 18 = .ok (.imul, 1) := by decide +kernel
theorem dX3_bitOf_19 : decode cX3_bitOf 19 = .ok (.iload_n 0, 1) := by decide +kernel
theorem dX3_bitOf_20 : decode cX3_bitOf 20 = .ok (.iadd, 1) := by decide +kernel
theorem dX3_bitOf_21 : decode cX3_bitOf 21 = .ok (.iconst 5, 1) := by decide +kernel
theorem dX3_bitOf_22 : decode cX3_bitOf 22 = .ok (.isub, 1) := by decide +kernel
theorem dX3_bitOf_23 : decode cX3_bitOf 23 = .ok (.ishl, 1) := by decide +kernel
theorem dX3_bitOf_24 : decode cX3_bitOf 24 = .ok (.ireturn, 1) := by decide +kernel
theorem dX3_cellsOf_0 : decode cX3_cellsOf 0 = .ok (.iload_n 0, 1) := by decide +kernel
theorem dX3_cellsOf_1 : decode cX3_cellsOf 1 = .ok (.iconst 5, 1) := by decide +kernel
theorem dX3_cellsOf_2 : decode cX3_cellsOf 2 = .ok (.if_icmp .ge 15, 3) := by decide +kernel
theorem dX3_cellsOf_5 : decode cX3_cellsOf 5 = .ok (.iconst 1, 1) := by decide +kernel
theorem dX3_cellsOf_6 : decode cX3_cellsOf 6 = .ok (.iload_n 2, 1) := by decide +kernel
theorem dX3_cellsOf_7 : decode cX3_cellsOf 7 = .ok (.ishl, 1) := by decide +kernel
theorem dX3_cellsOf_8 : decode cX3_cellsOf 8 = .ok (.iconst 1, 1) := by decide +kernel
theorem dX3_cellsOf_9 : decode cX3_cellsOf 9 = .ok (.isub, 1) := by decide +kernel
theorem dX3_cellsOf_10 : decode cX3_cellsOf 10 = .ok (.iconst 5, 1) := by decide +kernel
theorem dX3_cellsOf_11 : decode cX3_cellsOf 11 = .ok (.iload_n 0, 1) := by decide +kernel
theorem dX3_cellsOf_12 : decode cX3_cellsOf 12 = .ok (.imul, 1) := by decide +kernel
theorem dX3_cellsOf_13 : decode cX3_cellsOf 13 = .ok (.iload_n 1, 1) := by decide +kernel
theorem dX3_cellsOf_14 : decode cX3_cellsOf 14 = .ok (.iadd, 1) := by decide +kernel
theorem dX3_cellsOf_15 : decode cX3_cellsOf 15 = .ok (.ishl, 1) := by decide +kernel
theorem dX3_cellsOf_16 : decode cX3_cellsOf 16 = .ok (.ireturn, 1) := by decide +kernel
theorem dX3_cellsOf_17 : decode cX3_cellsOf 17 = .ok (.ldc_w 355, 3) := by decide +kernel
theorem dX3_cellsOf_20 : decode cX3_cellsOf 20 = .ok (.iconst 1, 1) := by decide +kernel
theorem dX3_cellsOf_21 : decode cX3_cellsOf 21 = .ok (.iconst 5, 1) := by decide +kernel
theorem dX3_cellsOf_22 : decode cX3_cellsOf 22 = .ok (.iload_n 2, 1) := by decide +kernel
theorem dX3_cellsOf_23 : decode cX3_cellsOf 23 = .ok (.imul, 1) := by decide +kernel
theorem dX3_cellsOf_24 : decode cX3_cellsOf 24 = .ok (.ishl, 1) := by decide +kernel
theorem dX3_cellsOf_25 : decode cX3_cellsOf 25 = .ok (.iconst 1, 1) := by decide +kernel
theorem dX3_cellsOf_26 : decode cX3_cellsOf 26 = .ok (.isub, 1) := by decide +kernel
theorem dX3_cellsOf_27 : decode cX3_cellsOf 27 = .ok (.iand, 1) := by decide +kernel
theorem dX3_cellsOf_28 : decode cX3_cellsOf 28 = .ok (.iconst 5, 1) := by decide +kernel
theorem dX3_cellsOf_29 : decode cX3_cellsOf 29 = .ok (.iload_n 1, 1) := by decide +kernel
theorem dX3_cellsOf_30 : decode cX3_cellsOf 30 = .ok (.imul, 1) := by decide +kernel
theorem dX3_cellsOf_31 : decode cX3_cellsOf 31 = .ok (.iload_n 0, 1) := by decide +kernel
theorem dX3_cellsOf_32 : decode cX3_cellsOf 32 = .ok (.iadd, 1) := by decide +kernel
theorem dX3_cellsOf_33 : decode cX3_cellsOf 33 = .ok (.iconst 5, 1) := by decide +kernel
theorem dX3_cellsOf_34 : decode cX3_cellsOf 34 = .ok (.isub, 1) := by decide +kernel
theorem dX3_cellsOf_35 : decode cX3_cellsOf 35 = .ok (.ishl, 1) := by decide +kernel
theorem dX3_cellsOf_36 : decode cX3_cellsOf 36 = .ok (.ireturn, 1) := by decide +kernel
theorem dX3_share_0 : decode cX3_share 0 = .ok (.iload_n 1, 1) := by decide +kernel
theorem dX3_share_1 : decode cX3_share 1 = .ok (.ifCond .le 11, 3) := by decide +kernel
theorem dX3_share_4 : decode cX3_share 4 = .ok (.iload_n 0, 1) := by decide +kernel
theorem dX3_share_5 : decode cX3_share 5 = .ok (.i2d, 1) := by decide +kernel
theorem dX3_share_6 : decode cX3_share 6 = .ok (.iload_n 1, 1) := by decide +kernel
theorem dX3_share_7 : decode cX3_share 7 = .ok (.i2d, 1) := by decide +kernel
theorem dX3_share_8 : decode cX3_share 8 = .ok (.ddiv, 1) := by decide +kernel
theorem dX3_share_9 : decode cX3_share 9 = .ok (.goto 4, 3) := by decide +kernel
theorem dX3_share_12 : decode cX3_share 12 = .ok (.dconst 0, 1) := by decide +kernel
theorem dX3_share_13 : decode cX3_share 13 = .ok (.dreturn, 1) := by decide +kernel
theorem dX3_mix_0 : decode cX3_mix 0 = .ok (.ldc2_w 356, 3) := by decide +kernel
theorem dX3_mix_3 : decode cX3_mix 3 = .ok (.lload_n 0, 1) := by decide +kernel
theorem dX3_mix_4 : decode cX3_mix 4 = .ok (.lmul, 1) := by decide +kernel
theorem dX3_mix_5 : decode cX3_mix 5 = .ok (.lload_n 2, 1) := by decide +kernel
theorem dX3_mix_6 : decode cX3_mix 6 = .ok (.ladd, 1) := by decide +kernel
theorem dX3_mix_7 : decode cX3_mix 7 = .ok (.lreturn, 1) := by decide +kernel
theorem dX3_bitsOf_0 : decode cX3_bitsOf 0 = .ok (.dload_n 0, 1) := by decide +kernel
theorem dX3_bitsOf_1 : decode cX3_bitsOf 1 = .ok (.dstore_n 2, 1) := by decide +kernel
theorem dX3_bitsOf_2 : decode cX3_bitsOf 2 = .ok (.ldc2_w 358, 3) := by decide +kernel
theorem dX3_bitsOf_5 : decode cX3_bitsOf 5 = .ok (.lstore 4, 2) := by decide +kernel
theorem dX3_bitsOf_7 : decode cX3_bitsOf 7 = .ok (.dload_n 2, 1) := by decide +kernel
theorem dX3_bitsOf_8 : decode cX3_bitsOf 8 = .ok (.dconst 1, 1) := by decide +kernel
theorem dX3_bitsOf_9 : decode cX3_bitsOf 9 = .ok (.dcmp .g, 1) := by decide +kernel
theorem dX3_bitsOf_10 : decode cX3_bitsOf 10 = .ok (.ifCond .ge 25, 3) := by decide +kernel
theorem dX3_bitsOf_13 : decode cX3_bitsOf 13 = .ok (.lload 4, 2) := by decide +kernel
theorem dX3_bitsOf_15 : decode cX3_bitsOf 15 = .ok (.lconst 1, 1) := by decide +kernel
theorem dX3_bitsOf_16 : decode cX3_bitsOf 16 = .ok (.lcmp, 1) := by decide +kernel
theorem dX3_bitsOf_17 : decode cX3_bitsOf 17 = .ok (.ifCond .le 18, 3) := by decide +kernel
theorem dX3_bitsOf_20 : decode cX3_bitsOf 20 = .ok (.dload_n 2, 1) := by decide +kernel
theorem dX3_bitsOf_21 : decode cX3_bitsOf 21 = .ok (.ldc2_w 360, 3) := by decide +kernel
theorem dX3_bitsOf_24 : decode cX3_bitsOf 24 = .ok (.dmul, 1) := by decide +kernel
theorem dX3_bitsOf_25 : decode cX3_bitsOf 25 = .ok (.dstore_n 2, 1) := by decide +kernel
theorem dX3_bitsOf_26 : decode cX3_bitsOf 26 = .ok (.lload 4, 2) := by decide +kernel
theorem dX3_bitsOf_28 : decode cX3_bitsOf 28 = .ok (.lconst 1, 1) := by decide +kernel
theorem dX3_bitsOf_29 : decode cX3_bitsOf 29 = .ok (.lsub, 1) := by decide +kernel
theorem dX3_bitsOf_30 : decode cX3_bitsOf 30 = .ok (.lstore 4, 2) := by decide +kernel
theorem dX3_bitsOf_32 : decode cX3_bitsOf 32 = .ok (.goto (-25), 3) := by decide +kernel
theorem dX3_bitsOf_35 : decode cX3_bitsOf 35 = .ok (.dload_n 2, 1) := by decide +kernel
theorem dX3_bitsOf_36 : decode cX3_bitsOf 36 = .ok (.dconst 1, 1) := by decide +kernel
theorem dX3_bitsOf_37 : decode cX3_bitsOf 37 = .ok (.dsub, 1) := by decide +kernel
theorem dX3_bitsOf_38 : decode cX3_bitsOf 38 = .ok (.ldc2_w 362, 3) := by decide +kernel
theorem dX3_bitsOf_41 : decode cX3_bitsOf 41 = .ok (.dmul, 1) := by decide +kernel
theorem dX3_bitsOf_42 : decode cX3_bitsOf 42 = .ok (.d2l, 1) := by decide +kernel
theorem dX3_bitsOf_43 : decode cX3_bitsOf 43 = .ok (.lstore 6, 2) := by decide +kernel
theorem dX3_bitsOf_45 : decode cX3_bitsOf 45 = .ok (.lload 4, 2) := by decide +kernel
theorem dX3_bitsOf_47 : decode cX3_bitsOf 47 = .ok (.bipush 52, 2) := by decide +kernel
theorem dX3_bitsOf_49 : decode cX3_bitsOf 49 = .ok (.lshl, 1) := by decide +kernel
theorem dX3_bitsOf_50 : decode cX3_bitsOf 50 = .ok (.lload 6, 2) := by decide +kernel
theorem dX3_bitsOf_52 : decode cX3_bitsOf 52 = .ok (.lor, 1) := by decide +kernel
theorem dX3_bitsOf_53 : decode cX3_bitsOf 53 = .ok (.lreturn, 1) := by decide +kernel
theorem dX3_hashOfPark_0 : decode cX3_hashOfPark 0 = .ok (.lload_n 1, 1) := by decide +kernel
theorem dX3_hashOfPark_1 : decode cX3_hashOfPark 1 = .ok (.aload_n 0, 1) := by decide +kernel
theorem dX3_hashOfPark_2 : decode cX3_hashOfPark 2 = .ok (.getfield 10, 3) := by decide +kernel
theorem dX3_hashOfPark_5 : decode cX3_hashOfPark 5 = .ok (.getfield 59, 3) := by decide +kernel
theorem dX3_hashOfPark_8 : decode cX3_hashOfPark 8 = .ok (.i2l, 1) := by decide +kernel
theorem dX3_hashOfPark_9 : decode cX3_hashOfPark 9 = .ok (.invokestatic 293, 3) := by decide +kernel
theorem dX3_hashOfPark_12 : decode cX3_hashOfPark 12 = .ok (.lstore_n 3, 1) := by decide +kernel
theorem dX3_hashOfPark_13 : decode cX3_hashOfPark 13 = .ok (.lload_n 3, 1) := by decide +kernel
theorem dX3_hashOfPark_14 : decode cX3_hashOfPark 14 = .ok (.aload_n 0, 1) := by decide +kernel
theorem dX3_hashOfPark_15 : decode cX3_hashOfPark 15 = .ok (.invokevirtual 364, 3) := by decide +kernel
theorem dX3_hashOfPark_18 : decode cX3_hashOfPark 18 = .ok (.i2l, 1) := by decide +kernel
theorem dX3_hashOfPark_19 : decode cX3_hashOfPark 19 = .ok (.invokestatic 293, 3) := by decide +kernel
theorem dX3_hashOfPark_22 : decode cX3_hashOfPark 22 = .ok (.lstore_n 3, 1) := by decide +kernel
theorem dX3_hashOfPark_23 : decode cX3_hashOfPark 23 = .ok (.lload_n 3, 1) := by decide +kernel
theorem dX3_hashOfPark_24 : decode cX3_hashOfPark 24 = .ok (.aload_n 0, 1) := by decide +kernel
theorem dX3_hashOfPark_25 : decode cX3_hashOfPark 25 = .ok (.invokevirtual 366, 3) := by decide +kernel
theorem dX3_hashOfPark_28 : decode cX3_hashOfPark 28 = .ok (.i2l, 1) := by decide +kernel
theorem dX3_hashOfPark_29 : decode cX3_hashOfPark 29 = .ok (.invokestatic 293, 3) := by decide +kernel
theorem dX3_hashOfPark_32 : decode cX3_hashOfPark 32 = .ok (.lstore_n 3, 1) := by decide +kernel
theorem dX3_hashOfPark_33 : decode cX3_hashOfPark 33 = .ok (.lload_n 3, 1) := by decide +kernel
theorem dX3_hashOfPark_34 : decode cX3_hashOfPark 34 = .ok (.aload_n 0, 1) := by decide +kernel
theorem dX3_hashOfPark_35 : decode cX3_hashOfPark 35 = .ok (.invokevirtual 369, 3) := by decide +kernel
theorem dX3_hashOfPark_38 : decode cX3_hashOfPark 38 = .ok (.ifCond .eq 7, 3) := by decide +kernel
theorem dX3_hashOfPark_41 : decode cX3_hashOfPark 41 = .ok (.lconst 1, 1) := by decide +kernel
theorem dX3_hashOfPark_42 : decode cX3_hashOfPark 42 = .ok (.goto 4, 3) := by decide +kernel
theorem dX3_hashOfPark_45 : decode cX3_hashOfPark 45 = .ok (.lconst 0, 1) := by decide +kernel
theorem dX3_hashOfPark_46 : decode cX3_hashOfPark 46 = .ok (.invokestatic 293, 3) := by decide +kernel
theorem dX3_hashOfPark_49 : decode cX3_hashOfPark 49 = .ok (.lstore_n 3, 1) := by decide +kernel
theorem dX3_hashOfPark_50 : decode cX3_hashOfPark 50 = .ok (.lload_n 3, 1) := by decide +kernel
theorem dX3_hashOfPark_51 : decode cX3_hashOfPark 51 = .ok (.aload_n 0, 1) := by decide +kernel
theorem dX3_hashOfPark_52 : decode cX3_hashOfPark 52 = .ok (.invokevirtual 372, 3) := by decide +kernel
theorem dX3_hashOfPark_55 : decode cX3_hashOfPark 55 = .ok (.i2l, 1) := by decide +kernel
theorem dX3_hashOfPark_56 : decode cX3_hashOfPark 56 = .ok (.invokestatic 293, 3) := by decide +kernel
theorem dX3_hashOfPark_59 : decode cX3_hashOfPark 59 = .ok (.lstore_n 3, 1) := by decide +kernel
theorem dX3_hashOfPark_60 : decode cX3_hashOfPark 60 = .ok (.lload_n 3, 1) := by decide +kernel
theorem dX3_hashOfPark_61 : decode cX3_hashOfPark 61 = .ok (.aload_n 0, 1) := by decide +kernel
theorem dX3_hashOfPark_62 : decode cX3_hashOfPark 62 = .ok (.getfield 10, 3) := by decide +kernel
theorem dX3_hashOfPark_65 : decode cX3_hashOfPark 65 = .ok (.getfield 85, 3) := by decide +kernel
theorem dX3_hashOfPark_68 : decode cX3_hashOfPark 68 = .ok (.i2l, 1) := by decide +kernel
theorem dX3_hashOfPark_69 : decode cX3_hashOfPark 69 = .ok (.invokestatic 293, 3) := by decide +kernel
theorem dX3_hashOfPark_72 : decode cX3_hashOfPark 72 = .ok (.lstore_n 3, 1) := by decide +kernel
theorem dX3_hashOfPark_73 : decode cX3_hashOfPark 73 = .ok (.lload_n 3, 1) := by decide +kernel
theorem dX3_hashOfPark_74 : decode cX3_hashOfPark 74 = .ok (.aload_n 0, 1) := by decide +kernel
theorem dX3_hashOfPark_75 : decode cX3_hashOfPark 75 = .ok (.getfield 10, 3) := by decide +kernel
theorem dX3_hashOfPark_78 : decode cX3_hashOfPark 78 = .ok (.invokevirtual 213, 3) := by decide +kernel
theorem dX3_hashOfPark_81 : decode cX3_hashOfPark 81 = .ok (.i2l, 1) := by decide +kernel
theorem dX3_hashOfPark_82 : decode cX3_hashOfPark 82 = .ok (.invokestatic 293, 3) := by decide +kernel
theorem dX3_hashOfPark_85 : decode cX3_hashOfPark 85 = .ok (.lstore_n 3, 1) := by decide +kernel
theorem dX3_hashOfPark_86 : decode cX3_hashOfPark 86 = .ok (.lload_n 3, 1) := by decide +kernel
theorem dX3_hashOfPark_87 : decode cX3_hashOfPark 87 = .ok (.aload_n 0, 1) := by decide +kernel
theorem dX3_hashOfPark_88 : decode cX3_hashOfPark 88 = .ok (.getfield 10, 3) := by decide +kernel
theorem dX3_hashOfPark_91 : decode cX3_hashOfPark 91 = .ok (.invokevirtual 216, 3) := by decide +kernel
theorem dX3_hashOfPark_94 : decode cX3_hashOfPark 94 = .ok (.i2l, 1) := by decide +kernel
theorem dX3_hashOfPark_95 : decode cX3_hashOfPark 95 = .ok (.invokestatic 293, 3) := by decide +kernel
theorem dX3_hashOfPark_98 : decode cX3_hashOfPark 98 = .ok (.lreturn, 1) := by decide +kernel
theorem dX3_hashOfPlans_0 : decode cX3_hashOfPlans 0 = .ok (.lload_n 1, 1) := by decide +kernel
theorem dX3_hashOfPlans_1 : decode cX3_hashOfPlans 1 = .ok (.aload_n 0, 1) := by decide +kernel
theorem dX3_hashOfPlans_2 : decode cX3_hashOfPlans 2 = .ok (.getfield 26, 3) := by decide +kernel
theorem dX3_hashOfPlans_5 : decode cX3_hashOfPlans 5 = .ok (.invokevirtual 222, 3) := by decide +kernel
theorem dX3_hashOfPlans_8 : decode cX3_hashOfPlans 8 = .ok (.i2l, 1) := by decide +kernel
theorem dX3_hashOfPlans_9 : decode cX3_hashOfPlans 9 = .ok (.invokestatic 293, 3) := by decide +kernel
theorem dX3_hashOfPlans_12 : decode cX3_hashOfPlans 12 = .ok (.lstore_n 3, 1) := by decide +kernel
theorem dX3_hashOfPlans_13 : decode cX3_hashOfPlans 13 = .ok (.lload_n 3, 1) := by decide +kernel
theorem dX3_hashOfPlans_14 : decode cX3_hashOfPlans 14 = .ok (.aload_n 0, 1) := by decide +kernel
theorem dX3_hashOfPlans_15 : decode cX3_hashOfPlans 15 = .ok (.getfield 26, 3) := by decide +kernel
theorem dX3_hashOfPlans_18 : decode cX3_hashOfPlans 18 = .ok (.invokevirtual 225, 3) := by decide +kernel
theorem dX3_hashOfPlans_21 : decode cX3_hashOfPlans 21 = .ok (.i2l, 1) := by decide +kernel
theorem dX3_hashOfPlans_22 : decode cX3_hashOfPlans 22 = .ok (.invokestatic 293, 3) := by decide +kernel
theorem dX3_hashOfPlans_25 : decode cX3_hashOfPlans 25 = .ok (.lstore_n 3, 1) := by decide +kernel
theorem dX3_hashOfPlans_26 : decode cX3_hashOfPlans 26 = .ok (.lload_n 3, 1) := by decide +kernel
theorem dX3_hashOfPlans_27 : decode cX3_hashOfPlans 27 = .ok (.aload_n 0, 1) := by decide +kernel
theorem dX3_hashOfPlans_28 : decode cX3_hashOfPlans 28 = .ok (.getfield 26, 3) := by decide +kernel
theorem dX3_hashOfPlans_31 : decode cX3_hashOfPlans 31 = .ok (.invokevirtual 228, 3) := by decide +kernel
theorem dX3_hashOfPlans_34 : decode cX3_hashOfPlans 34 = .ok (.i2l, 1) := by decide +kernel
theorem dX3_hashOfPlans_35 : decode cX3_hashOfPlans 35 = .ok (.invokestatic 293, 3) := by decide +kernel
theorem dX3_hashOfPlans_38 : decode cX3_hashOfPlans 38 = .ok (.lstore_n 3, 1) := by decide +kernel
theorem dX3_hashOfPlans_39 : decode cX3_hashOfPlans 39 = .ok (.lload_n 3, 1) := by decide +kernel
theorem dX3_hashOfPlans_40 : decode cX3_hashOfPlans 40 = .ok (.aload_n 0, 1) := by decide +kernel
theorem dX3_hashOfPlans_41 : decode cX3_hashOfPlans 41 = .ok (.getfield 26, 3) := by decide +kernel
theorem dX3_hashOfPlans_44 : decode cX3_hashOfPlans 44 = .ok (.invokevirtual 231, 3) := by decide +kernel
theorem dX3_hashOfPlans_47 : decode cX3_hashOfPlans 47 = .ok (.i2l, 1) := by decide +kernel
theorem dX3_hashOfPlans_48 : decode cX3_hashOfPlans 48 = .ok (.invokestatic 293, 3) := by decide +kernel
theorem dX3_hashOfPlans_51 : decode cX3_hashOfPlans 51 = .ok (.lstore_n 3, 1) := by decide +kernel
theorem dX3_hashOfPlans_52 : decode cX3_hashOfPlans 52 = .ok (.lload_n 3, 1) := by decide +kernel
theorem dX3_hashOfPlans_53 : decode cX3_hashOfPlans 53 = .ok (.aload_n 0, 1) := by decide +kernel
theorem dX3_hashOfPlans_54 : decode cX3_hashOfPlans 54 = .ok (.getfield 26, 3) := by decide +kernel
theorem dX3_hashOfPlans_57 : decode cX3_hashOfPlans 57 = .ok (.invokevirtual 234, 3) := by decide +kernel
theorem dX3_hashOfPlans_60 : decode cX3_hashOfPlans 60 = .ok (.i2l, 1) := by decide +kernel
theorem dX3_hashOfPlans_61 : decode cX3_hashOfPlans 61 = .ok (.invokestatic 293, 3) := by decide +kernel
theorem dX3_hashOfPlans_64 : decode cX3_hashOfPlans 64 = .ok (.lreturn, 1) := by decide +kernel
theorem dX3_hashOfArrangements_0 : decode cX3_hashOfArrangements 0 = .ok (.lload_n 1, 1) := by decide +kernel
theorem dX3_hashOfArrangements_1 : decode cX3_hashOfArrangements 1 = .ok (.aload_n 0, 1) := by decide +kernel
theorem dX3_hashOfArrangements_2 : decode cX3_hashOfArrangements 2 = .ok (.getfield 26, 3) := by decide +kernel
theorem dX3_hashOfArrangements_5 : decode cX3_hashOfArrangements 5 = .ok (.getfield 251, 3) := by decide +kernel
theorem dX3_hashOfArrangements_8 : decode cX3_hashOfArrangements 8 = .ok (.i2l, 1) := by decide +kernel
theorem dX3_hashOfArrangements_9 : decode cX3_hashOfArrangements 9 = .ok (.invokestatic 293, 3) := by decide +kernel
theorem dX3_hashOfArrangements_12 : decode cX3_hashOfArrangements 12 = .ok (.lstore_n 3, 1) := by decide +kernel
theorem dX3_hashOfArrangements_13 : decode cX3_hashOfArrangements 13 = .ok (.lload_n 3, 1) := by decide +kernel
theorem dX3_hashOfArrangements_14 : decode cX3_hashOfArrangements 14 = .ok (.aload_n 0, 1) := by decide +kernel
theorem dX3_hashOfArrangements_15 : decode cX3_hashOfArrangements 15 = .ok (.getfield 26, 3) := by decide +kernel
theorem dX3_hashOfArrangements_18 : decode cX3_hashOfArrangements 18 = .ok (.invokevirtual 254, 3) := by decide +kernel
theorem dX3_hashOfArrangements_21 : decode cX3_hashOfArrangements 21 = .ok (.i2l, 1) := by decide +kernel
theorem dX3_hashOfArrangements_22 : decode cX3_hashOfArrangements 22 = .ok (.invokestatic 293, 3) := by decide +kernel
theorem dX3_hashOfArrangements_25 : decode cX3_hashOfArrangements 25 = .ok (.lstore_n 3, 1) := by decide +kernel
theorem dX3_hashOfArrangements_26 : decode cX3_hashOfArrangements 26 = .ok (.lload_n 3, 1) := by decide +kernel
theorem dX3_hashOfArrangements_27 : decode cX3_hashOfArrangements 27 = .ok (.aload_n 0, 1) := by decide +kernel
theorem dX3_hashOfArrangements_28 : decode cX3_hashOfArrangements 28 = .ok (.getfield 26, 3) := by decide +kernel
theorem dX3_hashOfArrangements_31 : decode cX3_hashOfArrangements 31 = .ok (.invokevirtual 257, 3) := by decide +kernel
theorem dX3_hashOfArrangements_34 : decode cX3_hashOfArrangements 34 = .ok (.i2l, 1) := by decide +kernel
theorem dX3_hashOfArrangements_35 : decode cX3_hashOfArrangements 35 = .ok (.invokestatic 293, 3) := by decide +kernel
theorem dX3_hashOfArrangements_38 : decode cX3_hashOfArrangements 38 = .ok (.lstore_n 3, 1) := by decide +kernel
theorem dX3_hashOfArrangements_39 : decode cX3_hashOfArrangements 39 = .ok (.lload_n 3, 1) := by decide +kernel
theorem dX3_hashOfArrangements_40 : decode cX3_hashOfArrangements 40 = .ok (.aload_n 0, 1) := by decide +kernel
theorem dX3_hashOfArrangements_41 : decode cX3_hashOfArrangements 41 = .ok (.getfield 26, 3) := by decide +kernel
theorem dX3_hashOfArrangements_44 : decode cX3_hashOfArrangements 44 = .ok (.invokevirtual 260, 3) := by decide +kernel
theorem dX3_hashOfArrangements_47 : decode cX3_hashOfArrangements 47 = .ok (.i2l, 1) := by decide +kernel
theorem dX3_hashOfArrangements_48 : decode cX3_hashOfArrangements 48 = .ok (.invokestatic 293, 3) := by decide +kernel
theorem dX3_hashOfArrangements_51 : decode cX3_hashOfArrangements 51 = .ok (.lreturn, 1) := by decide +kernel
theorem dX3_hashOfCells_0 : decode cX3_hashOfCells 0 = .ok (.lload_n 1, 1) := by decide +kernel
theorem dX3_hashOfCells_1 : decode cX3_hashOfCells 1 = .ok (.lstore_n 3, 1) := by decide +kernel
theorem dX3_hashOfCells_2 : decode cX3_hashOfCells 2 = .ok (.iconst 0, 1) := by decide +kernel
theorem dX3_hashOfCells_3 : decode cX3_hashOfCells 3 = .ok (.istore 5, 2) := by decide +kernel
theorem dX3_hashOfCells_5 : decode cX3_hashOfCells 5 = .ok (.iload 5, 2) := by decide +kernel
theorem dX3_hashOfCells_7 : decode cX3_hashOfCells 7 = .ok (.bipush 25, 2) := by decide +kernel
theorem dX3_hashOfCells_9 : decode cX3_hashOfCells 9 = .ok (.if_icmp .ge 46, 3) := by decide +kernel
theorem dX3_hashOfCells_12 : decode cX3_hashOfCells 12 = .ok (.lload_n 3, 1) := by decide +kernel
theorem dX3_hashOfCells_13 : decode cX3_hashOfCells 13 = .ok (.aload_n 0, 1) := by decide +kernel
theorem dX3_hashOfCells_14 : decode cX3_hashOfCells 14 = .ok (.getfield 10, 3) := by decide +kernel
theorem dX3_hashOfCells_17 : decode cX3_hashOfCells 17 = .ok (.iload 5, 2) := by decide +kernel
theorem dX3_hashOfCells_19 : decode cX3_hashOfCells 19 = .ok (.invokevirtual 184, 3) := by decide +kernel
theorem dX3_hashOfCells_22 : decode cX3_hashOfCells 22 = .ok (.i2l, 1) := by decide +kernel
theorem dX3_hashOfCells_23 : decode cX3_hashOfCells 23 = .ok (.invokestatic 293, 3) := by decide +kernel
theorem dX3_hashOfCells_26 : decode cX3_hashOfCells 26 = .ok (.lstore_n 3, 1) := by decide +kernel
theorem dX3_hashOfCells_27 : decode cX3_hashOfCells 27 = .ok (.lload_n 3, 1) := by decide +kernel
theorem dX3_hashOfCells_28 : decode cX3_hashOfCells 28 = .ok (.aload_n 0, 1) := by decide +kernel
theorem dX3_hashOfCells_29 : decode cX3_hashOfCells 29 = .ok (.getfield 10, 3) := by decide +kernel
theorem dX3_hashOfCells_32 : decode cX3_hashOfCells 32 = .ok (.iload 5, 2) := by decide +kernel
theorem dX3_hashOfCells_34 : decode cX3_hashOfCells 34 = .ok (.invokevirtual 187, 3) := by decide +kernel
theorem dX3_hashOfCells_37 : decode cX3_hashOfCells 37 = .ok (.ifCond .eq 7, 3) := by decide +kernel
theorem dX3_hashOfCells_40 : decode cX3_hashOfCells 40 = .ok (.lconst 1, 1) := by decide +kernel
theorem dX3_hashOfCells_41 : decode cX3_hashOfCells 41 = .ok (.goto 4, 3) := by decide +kernel
theorem dX3_hashOfCells_44 : decode cX3_hashOfCells 44 = .ok (.lconst 0, 1) := by decide +kernel
theorem dX3_hashOfCells_45 : decode cX3_hashOfCells 45 = .ok (.invokestatic 293, 3) := by decide +kernel
theorem dX3_hashOfCells_48 : decode cX3_hashOfCells 48 = .ok (.lstore_n 3, 1) := by decide +kernel
theorem dX3_hashOfCells_49 : decode cX3_hashOfCells 49 = .ok (.iinc 5 1, 3) := by decide +kernel
theorem dX3_hashOfCells_52 : decode cX3_hashOfCells 52 = .ok (.goto (-47), 3) := by decide +kernel
theorem dX3_hashOfCells_55 : decode cX3_hashOfCells 55 = .ok (.lload_n 3, 1) := by decide +kernel
theorem dX3_hashOfCells_56 : decode cX3_hashOfCells 56 = .ok (.lreturn, 1) := by decide +kernel
theorem dX3_hashOfCars_0 : decode cX3_hashOfCars 0 = .ok (.lload_n 1, 1) := by decide +kernel
theorem dX3_hashOfCars_1 : decode cX3_hashOfCars 1 = .ok (.lstore_n 3, 1) := by decide +kernel
theorem dX3_hashOfCars_2 : decode cX3_hashOfCars 2 = .ok (.iconst 0, 1) := by decide +kernel
theorem dX3_hashOfCars_3 : decode cX3_hashOfCars 3 = .ok (.istore 5, 2) := by decide +kernel
theorem dX3_hashOfCars_5 : decode cX3_hashOfCars 5 = .ok (.iload 5, 2) := by decide +kernel
theorem dX3_hashOfCars_7 : decode cX3_hashOfCars 7 = .ok (.aload_n 0, 1) := by decide +kernel
theorem dX3_hashOfCars_8 : decode cX3_hashOfCars 8 = .ok (.getfield 10, 3) := by decide +kernel
theorem dX3_hashOfCars_11 : decode cX3_hashOfCars 11 = .ok (.getfield 59, 3) := by decide +kernel
theorem dX3_hashOfCars_14 : decode cX3_hashOfCars 14 = .ok (.if_icmp .ge 111, 3) := by decide +kernel
theorem dX3_hashOfCars_17 : decode cX3_hashOfCars 17 = .ok (.iload 5, 2) := by decide +kernel
theorem dX3_hashOfCars_19 : decode cX3_hashOfCars 19 = .ok (.bipush 6, 2) := by decide +kernel
theorem dX3_hashOfCars_21 : decode cX3_hashOfCars 21 = .ok (.if_icmp .ge 104, 3) := by decide +kernel
theorem dX3_hashOfCars_24 : decode cX3_hashOfCars 24 = .ok (.lload_n 3, 1) := by decide +kernel
theorem dX3_hashOfCars_25 : decode cX3_hashOfCars 25 = .ok (.aload_n 0, 1) := by decide +kernel
theorem dX3_hashOfCars_26 : decode cX3_hashOfCars 26 = .ok (.getfield 10, 3) := by decide +kernel
theorem dX3_hashOfCars_29 : decode cX3_hashOfCars 29 = .ok (.getfield 169, 3) := by decide +kernel
theorem dX3_hashOfCars_32 : decode cX3_hashOfCars 32 = .ok (.iload 5, 2) := by decide +kernel
theorem dX3_hashOfCars_34 : decode cX3_hashOfCars 34 = .ok (.iaload, 1) := by decide +kernel
theorem dX3_hashOfCars_35 : decode cX3_hashOfCars 35 = .ok (.i2l, 1) := by decide +kernel
theorem dX3_hashOfCars_36 : decode cX3_hashOfCars 36 = .ok (.invokestatic 293, 3) := by decide +kernel
theorem dX3_hashOfCars_39 : decode cX3_hashOfCars 39 = .ok (.lstore_n 3, 1) := by decide +kernel
theorem dX3_hashOfCars_40 : decode cX3_hashOfCars 40 = .ok (.lload_n 3, 1) := by decide +kernel
theorem dX3_hashOfCars_41 : decode cX3_hashOfCars 41 = .ok (.aload_n 0, 1) := by decide +kernel
theorem dX3_hashOfCars_42 : decode cX3_hashOfCars 42 = .ok (.getfield 10, 3) := by decide +kernel
theorem dX3_hashOfCars_45 : decode cX3_hashOfCars 45 = .ok (.getfield 173, 3) := by decide +kernel
theorem dX3_hashOfCars_48 : decode cX3_hashOfCars 48 = .ok (.iload 5, 2) := by decide +kernel
theorem dX3_hashOfCars_50 : decode cX3_hashOfCars 50 = .ok (.iaload, 1) := by decide +kernel
theorem dX3_hashOfCars_51 : decode cX3_hashOfCars 51 = .ok (.i2l, 1) := by decide +kernel
theorem dX3_hashOfCars_52 : decode cX3_hashOfCars 52 = .ok (.invokestatic 293, 3) := by decide +kernel
theorem dX3_hashOfCars_55 : decode cX3_hashOfCars 55 = .ok (.lstore_n 3, 1) := by decide +kernel
theorem dX3_hashOfCars_56 : decode cX3_hashOfCars 56 = .ok (.lload_n 3, 1) := by decide +kernel
theorem dX3_hashOfCars_57 : decode cX3_hashOfCars 57 = .ok (.aload_n 0, 1) := by decide +kernel
theorem dX3_hashOfCars_58 : decode cX3_hashOfCars 58 = .ok (.getfield 10, 3) := by decide +kernel
theorem dX3_hashOfCars_61 : decode cX3_hashOfCars 61 = .ok (.getfield 176, 3) := by decide +kernel
theorem dX3_hashOfCars_64 : decode cX3_hashOfCars 64 = .ok (.iload 5, 2) := by decide +kernel
theorem dX3_hashOfCars_66 : decode cX3_hashOfCars 66 = .ok (.iaload, 1) := by decide +kernel
theorem dX3_hashOfCars_67 : decode cX3_hashOfCars 67 = .ok (.i2l, 1) := by decide +kernel
theorem dX3_hashOfCars_68 : decode cX3_hashOfCars 68 = .ok (.invokestatic 293, 3) := by decide +kernel
theorem dX3_hashOfCars_71 : decode cX3_hashOfCars 71 = .ok (.lstore_n 3, 1) := by decide +kernel
theorem dX3_hashOfCars_72 : decode cX3_hashOfCars 72 = .ok (.lload_n 3, 1) := by decide +kernel
theorem dX3_hashOfCars_73 : decode cX3_hashOfCars 73 = .ok (.aload_n 0, 1) := by decide +kernel
theorem dX3_hashOfCars_74 : decode cX3_hashOfCars 74 = .ok (.getfield 10, 3) := by decide +kernel
theorem dX3_hashOfCars_77 : decode cX3_hashOfCars 77 = .ok (.iload 5, 2) := by decide +kernel
theorem dX3_hashOfCars_79 : decode cX3_hashOfCars 79 = .ok (.invokevirtual 210, 3) := by decide +kernel
theorem dX3_hashOfCars_82 : decode cX3_hashOfCars 82 = .ok (.i2l, 1) := by decide +kernel
theorem dX3_hashOfCars_83 : decode cX3_hashOfCars 83 = .ok (.invokestatic 293, 3) := by decide +kernel
theorem dX3_hashOfCars_86 : decode cX3_hashOfCars 86 = .ok (.lstore_n 3, 1) := by decide +kernel
theorem dX3_hashOfCars_87 : decode cX3_hashOfCars 87 = .ok (.lload_n 3, 1) := by decide +kernel
theorem dX3_hashOfCars_88 : decode cX3_hashOfCars 88 = .ok (.aload_n 0, 1) := by decide +kernel
theorem dX3_hashOfCars_89 : decode cX3_hashOfCars 89 = .ok (.getfield 10, 3) := by decide +kernel
theorem dX3_hashOfCars_92 : decode cX3_hashOfCars 92 = .ok (.iload 5, 2) := by decide +kernel
theorem dX3_hashOfCars_94 : decode cX3_hashOfCars 94 = .ok (.iconst 1, 1) := by decide +kernel
theorem dX3_hashOfCars_95 : decode cX3_hashOfCars 95 = .ok (.invokevirtual 196, 3) := by decide +kernel
theorem dX3_hashOfCars_98 : decode cX3_hashOfCars 98 = .ok (.i2l, 1) := by decide +kernel
theorem dX3_hashOfCars_99 : decode cX3_hashOfCars 99 = .ok (.invokestatic 293, 3) := by decide +kernel
theorem dX3_hashOfCars_102 : decode cX3_hashOfCars 102 = .ok (.lstore_n 3, 1) := by decide +kernel
theorem dX3_hashOfCars_103 : decode cX3_hashOfCars 103 = .ok (.lload_n 3, 1) := by decide +kernel
theorem dX3_hashOfCars_104 : decode cX3_hashOfCars 104 = .ok (.aload_n 0, 1) := by decide +kernel
theorem dX3_hashOfCars_105 : decode cX3_hashOfCars 105 = .ok (.getfield 10, 3) := by decide +kernel
theorem dX3_hashOfCars_108 : decode cX3_hashOfCars 108 = .ok (.iload 5, 2) := by decide +kernel
theorem dX3_hashOfCars_110 : decode cX3_hashOfCars 110 = .ok (.iconst (-1), 1) := by decide +kernel
theorem dX3_hashOfCars_111 : decode cX3_hashOfCars 111 = .ok (.invokevirtual 196, 3) := by decide +kernel
theorem dX3_hashOfCars_114 : decode cX3_hashOfCars 114 = .ok (.i2l, 1) := by decide +kernel
theorem dX3_hashOfCars_115 : decode cX3_hashOfCars 115 = .ok (.invokestatic 293, 3) := by decide +kernel
theorem dX3_hashOfCars_118 : decode cX3_hashOfCars 118 = .ok (.lstore_n 3, 1) := by decide +kernel
theorem dX3_hashOfCars_119 : decode cX3_hashOfCars 119 = .ok (.iinc 5 1, 3) := by decide +kernel
theorem dX3_hashOfCars_122 : decode cX3_hashOfCars 122 = .ok (.goto (-117), 3) := by decide +kernel
theorem dX3_hashOfCars_125 : decode cX3_hashOfCars 125 = .ok (.lload_n 3, 1) := by decide +kernel
theorem dX3_hashOfCars_126 : decode cX3_hashOfCars 126 = .ok (.lreturn, 1) := by decide +kernel
theorem dX3_hashOfLog_0 : decode cX3_hashOfLog 0 = .ok (.lload_n 1, 1) := by decide +kernel
theorem dX3_hashOfLog_1 : decode cX3_hashOfLog 1 = .ok (.lstore_n 3, 1) := by decide +kernel
theorem dX3_hashOfLog_2 : decode cX3_hashOfLog 2 = .ok (.iconst 0, 1) := by decide +kernel
theorem dX3_hashOfLog_3 : decode cX3_hashOfLog 3 = .ok (.istore 5, 2) := by decide +kernel
theorem dX3_hashOfLog_5 : decode cX3_hashOfLog 5 = .ok (.iload 5, 2) := by decide +kernel
theorem dX3_hashOfLog_7 : decode cX3_hashOfLog 7 = .ok (.aload_n 0, 1) := by decide +kernel
theorem dX3_hashOfLog_8 : decode cX3_hashOfLog 8 = .ok (.getfield 10, 3) := by decide +kernel
theorem dX3_hashOfLog_11 : decode cX3_hashOfLog 11 = .ok (.getfield 85, 3) := by decide +kernel
theorem dX3_hashOfLog_14 : decode cX3_hashOfLog 14 = .ok (.if_icmp .ge 48, 3) := by decide +kernel
theorem dX3_hashOfLog_17 : decode cX3_hashOfLog 17 = .ok (.iload 5, 2) := by decide +kernel
theorem dX3_hashOfLog_19 : decode cX3_hashOfLog 19 = .ok (.bipush 60, 2) := by decide +kernel
theorem dX3_hashOfLog_21 : decode cX3_hashOfLog 21 = .ok (.if_icmp .ge 41, 3) := by decide +kernel
theorem dX3_hashOfLog_24 : decode cX3_hashOfLog 24 = .ok (.lload_n 3, 1) := by decide +kernel
theorem dX3_hashOfLog_25 : decode cX3_hashOfLog 25 = .ok (.aload_n 0, 1) := by decide +kernel
theorem dX3_hashOfLog_26 : decode cX3_hashOfLog 26 = .ok (.getfield 10, 3) := by decide +kernel
theorem dX3_hashOfLog_29 : decode cX3_hashOfLog 29 = .ok (.getfield 204, 3) := by decide +kernel
theorem dX3_hashOfLog_32 : decode cX3_hashOfLog 32 = .ok (.iload 5, 2) := by decide +kernel
theorem dX3_hashOfLog_34 : decode cX3_hashOfLog 34 = .ok (.iaload, 1) := by decide +kernel
theorem dX3_hashOfLog_35 : decode cX3_hashOfLog 35 = .ok (.i2l, 1) := by decide +kernel
theorem dX3_hashOfLog_36 : decode cX3_hashOfLog 36 = .ok (.invokestatic 293, 3) := by decide +kernel
theorem dX3_hashOfLog_39 : decode cX3_hashOfLog 39 = .ok (.lstore_n 3, 1) := by decide +kernel
theorem dX3_hashOfLog_40 : decode cX3_hashOfLog 40 = .ok (.lload_n 3, 1) := by decide +kernel
theorem dX3_hashOfLog_41 : decode cX3_hashOfLog 41 = .ok (.aload_n 0, 1) := by decide +kernel
theorem dX3_hashOfLog_42 : decode cX3_hashOfLog 42 = .ok (.getfield 10, 3) := by decide +kernel
theorem dX3_hashOfLog_45 : decode cX3_hashOfLog 45 = .ok (.getfield 207, 3) := by decide +kernel
theorem dX3_hashOfLog_48 : decode cX3_hashOfLog 48 = .ok (.iload 5, 2) := by decide +kernel
theorem dX3_hashOfLog_50 : decode cX3_hashOfLog 50 = .ok (.iaload, 1) := by decide +kernel
theorem dX3_hashOfLog_51 : decode cX3_hashOfLog 51 = .ok (.i2l, 1) := by decide +kernel
theorem dX3_hashOfLog_52 : decode cX3_hashOfLog 52 = .ok (.invokestatic 293, 3) := by decide +kernel
theorem dX3_hashOfLog_55 : decode cX3_hashOfLog 55 = .ok (.lstore_n 3, 1) := by decide +kernel
theorem dX3_hashOfLog_56 : decode cX3_hashOfLog 56 = .ok (.iinc 5 1, 3) := by decide +kernel
theorem dX3_hashOfLog_59 : decode cX3_hashOfLog 59 = .ok (.goto (-54), 3) := by decide +kernel
theorem dX3_hashOfLog_62 : decode cX3_hashOfLog 62 = .ok (.lload_n 3, 1) := by decide +kernel
theorem dX3_hashOfLog_63 : decode cX3_hashOfLog 63 = .ok (.lreturn, 1) := by decide +kernel
theorem dX3_hashOfText_0 : decode cX3_hashOfText 0 = .ok (.lload_n 1, 1) := by decide +kernel
theorem dX3_hashOfText_1 : decode cX3_hashOfText 1 = .ok (.aload_n 0, 1) := by decide +kernel
theorem dX3_hashOfText_2 : decode cX3_hashOfText 2 = .ok (.getfield 33, 3) := by decide +kernel
theorem dX3_hashOfText_5 : decode cX3_hashOfText 5 = .ok (.getfield 111, 3) := by decide +kernel
theorem dX3_hashOfText_8 : decode cX3_hashOfText 8 = .ok (.i2l, 1) := by decide +kernel
theorem dX3_hashOfText_9 : decode cX3_hashOfText 9 = .ok (.invokestatic 293, 3) := by decide +kernel
theorem dX3_hashOfText_12 : decode cX3_hashOfText 12 = .ok (.lstore_n 3, 1) := by decide +kernel
theorem dX3_hashOfText_13 : decode cX3_hashOfText 13 = .ok (.iconst 0, 1) := by decide +kernel
theorem dX3_hashOfText_14 : decode cX3_hashOfText 14 = .ok (.istore 5, 2) := by decide +kernel
theorem dX3_hashOfText_16 : decode cX3_hashOfText 16 = .ok (.iload 5, 2) := by decide +kernel
theorem dX3_hashOfText_18 : decode cX3_hashOfText 18 = .ok (.aload_n 0, 1) := by decide +kernel
theorem dX3_hashOfText_19 : decode cX3_hashOfText 19 = .ok (.getfield 33, 3) := by decide +kernel
theorem dX3_hashOfText_22 : decode cX3_hashOfText 22 = .ok (.getfield 111, 3) := by decide +kernel
theorem dX3_hashOfText_25 : decode cX3_hashOfText 25 = .ok (.if_icmp .ge 24, 3) := by decide +kernel
theorem dX3_hashOfText_28 : decode cX3_hashOfText 28 = .ok (.lload_n 3, 1) := by decide +kernel
theorem dX3_hashOfText_29 : decode cX3_hashOfText 29 = .ok (.aload_n 0, 1) := by decide +kernel
theorem dX3_hashOfText_30 : decode cX3_hashOfText 30 = .ok (.getfield 33, 3) := by decide +kernel
theorem dX3_hashOfText_33 : decode cX3_hashOfText 33 = .ok (.iload 5, 2) := by decide +kernel
theorem dX3_hashOfText_35 : decode cX3_hashOfText 35 = .ok (.invokevirtual 329, 3) := by decide +kernel
theorem dX3_hashOfText_38 : decode cX3_hashOfText 38 = .ok (.i2l, 1) := by decide +kernel
theorem dX3_hashOfText_39 : decode cX3_hashOfText 39 = .ok (.invokestatic 293, 3) := by decide +kernel
theorem dX3_hashOfText_42 : decode cX3_hashOfText 42 = .ok (.lstore_n 3, 1) := by decide +kernel
theorem dX3_hashOfText_43 : decode cX3_hashOfText 43 = .ok (.iinc 5 1, 3) := by decide +kernel
theorem dX3_hashOfText_46 : decode cX3_hashOfText 46 = .ok (.goto (-30), 3) := by decide +kernel
theorem dX3_hashOfText_49 : decode cX3_hashOfText 49 = .ok (.lload_n 3, 1) := by decide +kernel
theorem dX3_hashOfText_50 : decode cX3_hashOfText 50 = .ok (.lreturn, 1) := by decide +kernel
theorem dJ6_bitCount_0f7a4_0 : decode cJ6_bitCount_0f7a4 0 = .ok (.iload_n 0, 1) := by decide +kernel
theorem dJ6_bitCount_0f7a4_1 : decode cJ6_bitCount_0f7a4 1 = .ok (.iload_n 0, 1) := by decide +kernel
theorem dJ6_bitCount_0f7a4_2 : decode cJ6_bitCount_0f7a4 2 = .ok (.iconst 1, 1) := by decide +kernel
theorem dJ6_bitCount_0f7a4_3 : decode cJ6_bitCount_0f7a4 3 = .ok (.iushr, 1) := by decide +kernel
theorem dJ6_bitCount_0f7a4_4 : decode cJ6_bitCount_0f7a4 4 = .ok (.ldc_w 265, 3) := by decide +kernel
theorem dJ6_bitCount_0f7a4_7 : decode cJ6_bitCount_0f7a4 7 = .ok (.iand, 1) := by decide +kernel
theorem dJ6_bitCount_0f7a4_8 : decode cJ6_bitCount_0f7a4 8 = .ok (.isub, 1) := by decide +kernel
theorem dJ6_bitCount_0f7a4_9 : decode cJ6_bitCount_0f7a4 9 = .ok (.istore_n 0, 1) := by decide +kernel
theorem dJ6_bitCount_0f7a4_10 : decode cJ6_bitCount_0f7a4 10 = .ok (.iload_n 0, 1) := by decide +kernel
theorem dJ6_bitCount_0f7a4_11 : decode cJ6_bitCount_0f7a4 11 = .ok (.ldc_w 266, 3) := by decide +kernel
theorem dJ6_bitCount_0f7a4_14 : decode cJ6_bitCount_0f7a4 14 = .ok (.iand, 1) := by decide +kernel
theorem dJ6_bitCount_0f7a4_15 : decode cJ6_bitCount_0f7a4 15 = .ok (.iload_n 0, 1) := by decide +kernel
theorem dJ6_bitCount_0f7a4_16 : decode cJ6_bitCount_0f7a4 16 = .ok (.iconst 2, 1) := by decide +kernel
theorem dJ6_bitCount_0f7a4_17 : decode cJ6_bitCount_0f7a4 17 = .ok (.iushr, 1) := by decide +kernel
theorem dJ6_bitCount_0f7a4_18 : decode cJ6_bitCount_0f7a4 18 = .ok (.ldc_w 266, 3) := by decide +kernel
theorem dJ6_bitCount_0f7a4_21 : decode cJ6_bitCount_0f7a4 21 = .ok (.iand, 1) := by decide +kernel
theorem dJ6_bitCount_0f7a4_22 : decode cJ6_bitCount_0f7a4 22 = .ok (.iadd, 1) := by decide +kernel
theorem dJ6_bitCount_0f7a4_23 : decode cJ6_bitCount_0f7a4 23 = .ok (.istore_n 0, 1) := by decide +kernel
theorem dJ6_bitCount_0f7a4_24 : decode cJ6_bitCount_0f7a4 24 = .ok (.iload_n 0, 1) := by decide +kernel
theorem dJ6_bitCount_0f7a4_25 : decode cJ6_bitCount_0f7a4 25 = .ok (.iload_n 0, 1) := by decide +kernel
theorem dJ6_bitCount_0f7a4_26 : decode cJ6_bitCount_0f7a4 26 = .ok (.iconst 4, 1) := by decide +kernel
theorem dJ6_bitCount_0f7a4_27 : decode cJ6_bitCount_0f7a4 27 = .ok (.iushr, 1) := by decide +kernel
theorem dJ6_bitCount_0f7a4_28 : decode cJ6_bitCount_0f7a4 28 = .ok (.iadd, 1) := by decide +kernel
theorem dJ6_bitCount_0f7a4_29 : decode cJ6_bitCount_0f7a4 29 = .ok (.ldc_w 267, 3) := by decide +kernel
theorem dJ6_bitCount_0f7a4_32 : decode cJ6_bitCount_0f7a4 32 = .ok (.iand, 1) := by decide +kernel
theorem dJ6_bitCount_0f7a4_33 : decode cJ6_bitCount_0f7a4 33 = .ok (.istore_n 0, 1) := by decide +kernel
theorem dJ6_bitCount_0f7a4_34 : decode cJ6_bitCount_0f7a4 34 = .ok (.iload_n 0, 1) := by decide +kernel
theorem dJ6_bitCount_0f7a4_35 : decode cJ6_bitCount_0f7a4 35 = .ok (.iload_n 0, 1) := by decide +kernel
theorem dJ6_bitCount_0f7a4_36 : decode cJ6_bitCount_0f7a4 36 = .ok (.bipush 8, 2) := by decide +kernel
theorem dJ6_bitCount_0f7a4_38 : decode cJ6_bitCount_0f7a4 38 = .ok (.iushr, 1) := by decide +kernel
theorem dJ6_bitCount_0f7a4_39 : decode cJ6_bitCount_0f7a4 39 = .ok (.iadd, 1) := by decide +kernel
theorem dJ6_bitCount_0f7a4_40 : decode cJ6_bitCount_0f7a4 40 = .ok (.istore_n 0, 1) := by decide +kernel
theorem dJ6_bitCount_0f7a4_41 : decode cJ6_bitCount_0f7a4 41 = .ok (.iload_n 0, 1) := by decide +kernel
theorem dJ6_bitCount_0f7a4_42 : decode cJ6_bitCount_0f7a4 42 = .ok (.iload_n 0, 1) := by decide +kernel
theorem dJ6_bitCount_0f7a4_43 : decode cJ6_bitCount_0f7a4 43 = .ok (.bipush 16, 2) := by decide +kernel
theorem dJ6_bitCount_0f7a4_45 : decode cJ6_bitCount_0f7a4 45 = .ok (.iushr, 1) := by decide +kernel
theorem dJ6_bitCount_0f7a4_46 : decode cJ6_bitCount_0f7a4 46 = .ok (.iadd, 1) := by decide +kernel
theorem dJ6_bitCount_0f7a4_47 : decode cJ6_bitCount_0f7a4 47 = .ok (.istore_n 0, 1) := by decide +kernel
theorem dJ6_bitCount_0f7a4_48 : decode cJ6_bitCount_0f7a4 48 = .ok (.iload_n 0, 1) := by decide +kernel
theorem dJ6_bitCount_0f7a4_49 : decode cJ6_bitCount_0f7a4 49 = .ok (.bipush 63, 2) := by decide +kernel
theorem dJ6_bitCount_0f7a4_51 : decode cJ6_bitCount_0f7a4 51 = .ok (.iand, 1) := by decide +kernel
theorem dJ6_bitCount_0f7a4_52 : decode cJ6_bitCount_0f7a4 52 = .ok (.ireturn, 1) := by decide +kernel
theorem dJ9_abs_0f7a4_0 : decode cJ9_abs_0f7a4 0 = .ok (.iload_n 0, 1) := by decide +kernel
theorem dJ9_abs_0f7a4_1 : decode cJ9_abs_0f7a4 1 = .ok (.ifCond .ge 8, 3) := by decide +kernel
theorem dJ9_abs_0f7a4_4 : decode cJ9_abs_0f7a4 4 = .ok (.iload_n 0, 1) := by decide +kernel
theorem dJ9_abs_0f7a4_5 : decode cJ9_abs_0f7a4 5 = .ok (.ineg, 1) := by decide +kernel
theorem dJ9_abs_0f7a4_6 : decode cJ9_abs_0f7a4 6 = .ok (.goto 4, 3) := by decide +kernel
theorem dJ9_abs_0f7a4_9 : decode cJ9_abs_0f7a4 9 = .ok (.iload_n 0, 1) := by decide +kernel
theorem dJ9_abs_0f7a4_10 : decode cJ9_abs_0f7a4 10 = .ok (.ireturn, 1) := by decide +kernel
theorem dJ9_max_7cf53_0 : decode cJ9_max_7cf53 0 = .ok (.iload_n 0, 1) := by decide +kernel
theorem dJ9_max_7cf53_1 : decode cJ9_max_7cf53 1 = .ok (.iload_n 1, 1) := by decide +kernel
theorem dJ9_max_7cf53_2 : decode cJ9_max_7cf53 2 = .ok (.if_icmp .lt 7, 3) := by decide +kernel
theorem dJ9_max_7cf53_5 : decode cJ9_max_7cf53 5 = .ok (.iload_n 0, 1) := by decide +kernel
theorem dJ9_max_7cf53_6 : decode cJ9_max_7cf53 6 = .ok (.goto 4, 3) := by decide +kernel
theorem dJ9_max_7cf53_9 : decode cJ9_max_7cf53 9 = .ok (.iload_n 1, 1) := by decide +kernel
theorem dJ9_max_7cf53_10 : decode cJ9_max_7cf53 10 = .ok (.ireturn, 1) := by decide +kernel
theorem dJ9_min_7cf53_0 : decode cJ9_min_7cf53 0 = .ok (.iload_n 0, 1) := by decide +kernel
theorem dJ9_min_7cf53_1 : decode cJ9_min_7cf53 1 = .ok (.iload_n 1, 1) := by decide +kernel
theorem dJ9_min_7cf53_2 : decode cJ9_min_7cf53 2 = .ok (.if_icmp .gt 7, 3) := by decide +kernel
theorem dJ9_min_7cf53_5 : decode cJ9_min_7cf53 5 = .ok (.iload_n 0, 1) := by decide +kernel
theorem dJ9_min_7cf53_6 : decode cJ9_min_7cf53 6 = .ok (.goto 4, 3) := by decide +kernel
theorem dJ9_min_7cf53_9 : decode cJ9_min_7cf53 9 = .ok (.iload_n 1, 1) := by decide +kernel
theorem dJ9_min_7cf53_10 : decode cJ9_min_7cf53 10 = .ok (.ireturn, 1) := by decide +kernel
theorem dL_wall_0 : decode cL_wall 0 = .ok (.aload_n 0, 1) := by decide +kernel
theorem dL_wall_1 : decode cL_wall 1 = .ok (.iload_n 1, 1) := by decide +kernel
theorem dL_wall_2 : decode cL_wall 2 = .ok (.invokevirtual 7, 3) := by decide +kernel
theorem dL_wall_5 : decode cL_wall 5 = .ok (.ifCond .eq 7, 3) := by decide +kernel
theorem dL_wall_8 : decode cL_wall 8 = .ok (.iconst 1, 1) := by decide +kernel
theorem dL_wall_9 : decode cL_wall 9 = .ok (.goto 4, 3) := by decide +kernel
theorem dL_wall_12 : decode cL_wall 12 = .ok (.iconst 0, 1) := by decide +kernel
theorem dL_wall_13 : decode cL_wall 13 = .ok (.ireturn, 1) := by decide +kernel
theorem dL_wall_14 : decode cL_wall 14 = .ok (.astore_n 2, 1) := by decide +kernel
theorem dL_wall_15 : decode cL_wall 15 = .ok (.ldc 15, 2) := by decide +kernel
theorem dL_wall_17 : decode cL_wall 17 = .ok (.ireturn, 1) := by decide +kernel
theorem dL_wall_18 : decode cL_wall 18 = .ok (.astore_n 2, 1) := by decide +kernel
theorem dL_wall_19 : decode cL_wall 19 = .ok (.ldc 18, 2) := by decide +kernel
theorem dL_wall_21 : decode cL_wall 21 = .ok (.ireturn, 1) := by decide +kernel
theorem dL_isWall_0 : decode cL_isWall 0 = .ok (.aload_n 0, 1) := by decide +kernel
theorem dL_isWall_1 : decode cL_isWall 1 = .ok (.iload_n 1, 1) := by decide +kernel
theorem dL_isWall_2 : decode cL_isWall 2 = .ok (.invokevirtual 19, 3) := by decide +kernel
theorem dL_isWall_5 : decode cL_isWall 5 = .ok (.ifCond .eq 7, 3) := by decide +kernel
theorem dL_isWall_8 : decode cL_isWall 8 = .ok (.iconst 1, 1) := by decide +kernel
theorem dL_isWall_9 : decode cL_isWall 9 = .ok (.goto 4, 3) := by decide +kernel
theorem dL_isWall_12 : decode cL_isWall 12 = .ok (.iconst 0, 1) := by decide +kernel
theorem dL_isWall_13 : decode cL_isWall 13 = .ok (.ireturn, 1) := by decide +kernel
theorem dL_isWall_14 : decode cL_isWall 14 = .ok (.astore_n 2, 1) := by decide +kernel
theorem dL_isWall_15 : decode cL_isWall 15 = .ok (.ldc 15, 2) := by decide +kernel
theorem dL_isWall_17 : decode cL_isWall 17 = .ok (.ireturn, 1) := by decide +kernel
theorem dL_room_0 : decode cL_room 0 = .ok (.aload_n 0, 1) := by decide +kernel
theorem dL_room_1 : decode cL_room 1 = .ok (.iload_n 1, 1) := by decide +kernel
theorem dL_room_2 : decode cL_room 2 = .ok (.iload_n 2, 1) := by decide +kernel
theorem dL_room_3 : decode cL_room 3 = .ok (.invokevirtual 22, 3) := by decide +kernel
theorem dL_room_6 : decode cL_room 6 = .ok (.ireturn, 1) := by decide +kernel
theorem dL_room_7 : decode cL_room 7 = .ok (.astore_n 3, 1) := by decide +kernel
theorem dL_room_8 : decode cL_room 8 = .ok (.ldc 15, 2) := by decide +kernel
theorem dL_room_10 : decode cL_room 10 = .ok (.ireturn, 1) := by decide +kernel
theorem dL_tryAdd_0 : decode cL_tryAdd 0 = .ok (.aload_n 0, 1) := by decide +kernel
theorem dL_tryAdd_1 : decode cL_tryAdd 1 = .ok (.iload_n 1, 1) := by decide +kernel
theorem dL_tryAdd_2 : decode cL_tryAdd 2 = .ok (.iload_n 2, 1) := by decide +kernel
theorem dL_tryAdd_3 : decode cL_tryAdd 3 = .ok (.iload_n 3, 1) := by decide +kernel
theorem dL_tryAdd_4 : decode cL_tryAdd 4 = .ok (.invokevirtual 26, 3) := by decide +kernel
theorem dL_tryAdd_7 : decode cL_tryAdd 7 = .ok (.ireturn, 1) := by decide +kernel
theorem dL_tryAdd_8 : decode cL_tryAdd 8 = .ok (.astore 4, 2) := by decide +kernel
theorem dL_tryAdd_10 : decode cL_tryAdd 10 = .ok (.ldc 15, 2) := by decide +kernel
theorem dL_tryAdd_12 : decode cL_tryAdd 12 = .ok (.ireturn, 1) := by decide +kernel
theorem dL_tryAdd_13 : decode cL_tryAdd 13 = .ok (.astore 4, 2) := by decide +kernel
theorem dL_tryAdd_15 : decode cL_tryAdd 15 = .ok (.ldc 32, 2) := by decide +kernel
theorem dL_tryAdd_17 : decode cL_tryAdd 17 = .ok (.ireturn, 1) := by decide +kernel
theorem dL_tryAdd_18 : decode cL_tryAdd 18 = .ok (.astore 4, 2) := by decide +kernel
theorem dL_tryAdd_20 : decode cL_tryAdd 20 = .ok (.ldc 18, 2) := by decide +kernel
theorem dL_tryAdd_22 : decode cL_tryAdd 22 = .ok (.ireturn, 1) := by decide +kernel
theorem dL_tryDrop_0 : decode cL_tryDrop 0 = .ok (.aload_n 0, 1) := by decide +kernel
theorem dL_tryDrop_1 : decode cL_tryDrop 1 = .ok (.invokevirtual 33, 3) := by decide +kernel
theorem dL_tryDrop_4 : decode cL_tryDrop 4 = .ok (.ireturn, 1) := by decide +kernel
theorem dL_tryDrop_5 : decode cL_tryDrop 5 = .ok (.astore_n 1, 1) := by decide +kernel
theorem dL_tryDrop_6 : decode cL_tryDrop 6 = .ok (.ldc 18, 2) := by decide +kernel
theorem dL_tryDrop_8 : decode cL_tryDrop 8 = .ok (.ireturn, 1) := by decide +kernel
theorem dL_trySlide_0 : decode cL_trySlide 0 = .ok (.aload_n 0, 1) := by decide +kernel
theorem dL_trySlide_1 : decode cL_trySlide 1 = .ok (.iload_n 1, 1) := by decide +kernel
theorem dL_trySlide_2 : decode cL_trySlide 2 = .ok (.iload_n 2, 1) := by decide +kernel
theorem dL_trySlide_3 : decode cL_trySlide 3 = .ok (.invokevirtual 37, 3) := by decide +kernel
theorem dL_trySlide_6 : decode cL_trySlide 6 = .ok (.ireturn, 1) := by decide +kernel
theorem dL_trySlide_7 : decode cL_trySlide 7 = .ok (.astore_n 3, 1) := by decide +kernel
theorem dL_trySlide_8 : decode cL_trySlide 8 = .ok (.ldc 15, 2) := by decide +kernel
theorem dL_trySlide_10 : decode cL_trySlide 10 = .ok (.ireturn, 1) := by decide +kernel
theorem dL_trySlide_11 : decode cL_trySlide 11 = .ok (.astore_n 3, 1) := by decide +kernel
theorem dL_trySlide_12 : decode cL_trySlide 12 = .ok (.ldc 32, 2) := by decide +kernel
theorem dL_trySlide_14 : decode cL_trySlide 14 = .ok (.ireturn, 1) := by decide +kernel
theorem dL_trySlide_15 : decode cL_trySlide 15 = .ok (.astore_n 3, 1) := by decide +kernel
theorem dL_trySlide_16 : decode cL_trySlide 16 = .ok (.ldc 18, 2) := by decide +kernel
theorem dL_trySlide_18 : decode cL_trySlide 18 = .ok (.ireturn, 1) := by decide +kernel
theorem dL_tryTake_0 : decode cL_tryTake 0 = .ok (.aload_n 0, 1) := by decide +kernel
theorem dL_tryTake_1 : decode cL_tryTake 1 = .ok (.invokevirtual 41, 3) := by decide +kernel
theorem dL_tryTake_4 : decode cL_tryTake 4 = .ok (.ireturn, 1) := by decide +kernel
theorem dL_tryTake_5 : decode cL_tryTake 5 = .ok (.astore_n 1, 1) := by decide +kernel
theorem dL_tryTake_6 : decode cL_tryTake 6 = .ok (.ldc 18, 2) := by decide +kernel
theorem dL_tryTake_8 : decode cL_tryTake 8 = .ok (.ireturn, 1) := by decide +kernel
theorem dL_tryDrive_0 : decode cL_tryDrive 0 = .ok (.aload_n 0, 1) := by decide +kernel
theorem dL_tryDrive_1 : decode cL_tryDrive 1 = .ok (.invokevirtual 44, 3) := by decide +kernel
theorem dL_tryDrive_4 : decode cL_tryDrive 4 = .ok (.ireturn, 1) := by decide +kernel
theorem dL_tryDrive_5 : decode cL_tryDrive 5 = .ok (.astore_n 1, 1) := by decide +kernel
theorem dL_tryDrive_6 : decode cL_tryDrive 6 = .ok (.ldc 18, 2) := by decide +kernel
theorem dL_tryDrive_8 : decode cL_tryDrive 8 = .ok (.ireturn, 1) := by decide +kernel
theorem dL_tryAppend_0 : decode cL_tryAppend 0 = .ok (.aload_n 0, 1) := by decide +kernel
theorem dL_tryAppend_1 : decode cL_tryAppend 1 = .ok (.iload_n 1, 1) := by decide +kernel
theorem dL_tryAppend_2 : decode cL_tryAppend 2 = .ok (.invokevirtual 47, 3) := by decide +kernel
theorem dL_tryAppend_5 : decode cL_tryAppend 5 = .ok (.ireturn, 1) := by decide +kernel
theorem dL_tryAppend_6 : decode cL_tryAppend 6 = .ok (.astore_n 2, 1) := by decide +kernel
theorem dL_tryAppend_7 : decode cL_tryAppend 7 = .ok (.ldc 32, 2) := by decide +kernel
theorem dL_tryAppend_9 : decode cL_tryAppend 9 = .ok (.ireturn, 1) := by decide +kernel
theorem dL_tryAppend_10 : decode cL_tryAppend 10 = .ok (.astore_n 2, 1) := by decide +kernel
theorem dL_tryAppend_11 : decode cL_tryAppend 11 = .ok (.ldc 18, 2) := by decide +kernel
theorem dL_tryAppend_13 : decode cL_tryAppend 13 = .ok (.ireturn, 1) := by decide +kernel
theorem dL_tryWork_0 : decode cL_tryWork 0 = .ok (.aload_n 0, 1) := by decide +kernel
theorem dL_tryWork_1 : decode cL_tryWork 1 = .ok (.invokevirtual 51, 3) := by decide +kernel
theorem dL_tryWork_4 : decode cL_tryWork 4 = .ok (.ireturn, 1) := by decide +kernel
theorem dL_tryWork_5 : decode cL_tryWork 5 = .ok (.astore_n 1, 1) := by decide +kernel
theorem dL_tryWork_6 : decode cL_tryWork 6 = .ok (.ldc 32, 2) := by decide +kernel
theorem dL_tryWork_8 : decode cL_tryWork 8 = .ok (.ireturn, 1) := by decide +kernel
theorem dL_tryStop_0 : decode cL_tryStop 0 = .ok (.aload_n 0, 1) := by decide +kernel
theorem dL_tryStop_1 : decode cL_tryStop 1 = .ok (.invokevirtual 54, 3) := by decide +kernel
theorem dL_tryStop_4 : decode cL_tryStop 4 = .ok (.ireturn, 1) := by decide +kernel
theorem dL_tryStop_5 : decode cL_tryStop 5 = .ok (.astore_n 1, 1) := by decide +kernel
theorem dL_tryStop_6 : decode cL_tryStop 6 = .ok (.ldc 18, 2) := by decide +kernel
theorem dL_tryStop_8 : decode cL_tryStop 8 = .ok (.ireturn, 1) := by decide +kernel
theorem dL_tryUndo_0 : decode cL_tryUndo 0 = .ok (.aload_n 0, 1) := by decide +kernel
theorem dL_tryUndo_1 : decode cL_tryUndo 1 = .ok (.invokevirtual 57, 3) := by decide +kernel
theorem dL_tryUndo_4 : decode cL_tryUndo 4 = .ok (.ireturn, 1) := by decide +kernel
theorem dL_tryUndo_5 : decode cL_tryUndo 5 = .ok (.astore_n 1, 1) := by decide +kernel
theorem dL_tryUndo_6 : decode cL_tryUndo 6 = .ok (.ldc 18, 2) := by decide +kernel
theorem dL_tryUndo_8 : decode cL_tryUndo 8 = .ok (.ireturn, 1) := by decide +kernel
theorem dL_tryBack_0 : decode cL_tryBack 0 = .ok (.aload_n 0, 1) := by decide +kernel
theorem dL_tryBack_1 : decode cL_tryBack 1 = .ok (.invokevirtual 60, 3) := by decide +kernel
theorem dL_tryBack_4 : decode cL_tryBack 4 = .ok (.ireturn, 1) := by decide +kernel
theorem dL_tryBack_5 : decode cL_tryBack 5 = .ok (.astore_n 1, 1) := by decide +kernel
theorem dL_tryBack_6 : decode cL_tryBack 6 = .ok (.ldc 18, 2) := by decide +kernel
theorem dL_tryBack_8 : decode cL_tryBack 8 = .ok (.ireturn, 1) := by decide +kernel
theorem dL_tryLane_0 : decode cL_tryLane 0 = .ok (.aload_n 0, 1) := by decide +kernel
theorem dL_tryLane_1 : decode cL_tryLane 1 = .ok (.iload_n 1, 1) := by decide +kernel
theorem dL_tryLane_2 : decode cL_tryLane 2 = .ok (.invokevirtual 63, 3) := by decide +kernel
theorem dL_tryLane_5 : decode cL_tryLane 5 = .ok (.ireturn, 1) := by decide +kernel
theorem dL_tryLane_6 : decode cL_tryLane 6 = .ok (.astore_n 2, 1) := by decide +kernel
theorem dL_tryLane_7 : decode cL_tryLane 7 = .ok (.ldc 15, 2) := by decide +kernel
theorem dL_tryLane_9 : decode cL_tryLane 9 = .ok (.ireturn, 1) := by decide +kernel
theorem dL_tryPlace_0 : decode cL_tryPlace 0 = .ok (.aload_n 0, 1) := by decide +kernel
theorem dL_tryPlace_1 : decode cL_tryPlace 1 = .ok (.iload_n 1, 1) := by decide +kernel
theorem dL_tryPlace_2 : decode cL_tryPlace 2 = .ok (.invokevirtual 66, 3) := by decide +kernel
theorem dL_tryPlace_5 : decode cL_tryPlace 5 = .ok (.ireturn, 1) := by decide +kernel
theorem dL_tryPlace_6 : decode cL_tryPlace 6 = .ok (.astore_n 2, 1) := by decide +kernel
theorem dL_tryPlace_7 : decode cL_tryPlace 7 = .ok (.ldc 15, 2) := by decide +kernel
theorem dL_tryPlace_9 : decode cL_tryPlace 9 = .ok (.ireturn, 1) := by decide +kernel
theorem dL_tryLength_0 : decode cL_tryLength 0 = .ok (.aload_n 0, 1) := by decide +kernel
theorem dL_tryLength_1 : decode cL_tryLength 1 = .ok (.iload_n 1, 1) := by decide +kernel
theorem dL_tryLength_2 : decode cL_tryLength 2 = .ok (.invokevirtual 69, 3) := by decide +kernel
theorem dL_tryLength_5 : decode cL_tryLength 5 = .ok (.ireturn, 1) := by decide +kernel
theorem dL_tryLength_6 : decode cL_tryLength 6 = .ok (.astore_n 2, 1) := by decide +kernel
theorem dL_tryLength_7 : decode cL_tryLength 7 = .ok (.ldc 15, 2) := by decide +kernel
theorem dL_tryLength_9 : decode cL_tryLength 9 = .ok (.ireturn, 1) := by decide +kernel
theorem dL_tryOn_0 : decode cL_tryOn 0 = .ok (.aload_n 0, 1) := by decide +kernel
theorem dL_tryOn_1 : decode cL_tryOn 1 = .ok (.iload_n 1, 1) := by decide +kernel
theorem dL_tryOn_2 : decode cL_tryOn 2 = .ok (.invokevirtual 72, 3) := by decide +kernel
theorem dL_tryOn_5 : decode cL_tryOn 5 = .ok (.ireturn, 1) := by decide +kernel
theorem dL_tryOn_6 : decode cL_tryOn 6 = .ok (.astore_n 2, 1) := by decide +kernel
theorem dL_tryOn_7 : decode cL_tryOn 7 = .ok (.ldc 15, 2) := by decide +kernel
theorem dL_tryOn_9 : decode cL_tryOn 9 = .ok (.ireturn, 1) := by decide +kernel
theorem dL_tryLogCar_0 : decode cL_tryLogCar 0 = .ok (.aload_n 0, 1) := by decide +kernel
theorem dL_tryLogCar_1 : decode cL_tryLogCar 1 = .ok (.iload_n 1, 1) := by decide +kernel
theorem dL_tryLogCar_2 : decode cL_tryLogCar 2 = .ok (.invokevirtual 75, 3) := by decide +kernel
theorem dL_tryLogCar_5 : decode cL_tryLogCar 5 = .ok (.ireturn, 1) := by decide +kernel
theorem dL_tryLogCar_6 : decode cL_tryLogCar 6 = .ok (.astore_n 2, 1) := by decide +kernel
theorem dL_tryLogCar_7 : decode cL_tryLogCar 7 = .ok (.ldc 15, 2) := by decide +kernel
theorem dL_tryLogCar_9 : decode cL_tryLogCar 9 = .ok (.ireturn, 1) := by decide +kernel
theorem dL_tryLogBy_0 : decode cL_tryLogBy 0 = .ok (.aload_n 0, 1) := by decide +kernel
theorem dL_tryLogBy_1 : decode cL_tryLogBy 1 = .ok (.iload_n 1, 1) := by decide +kernel
theorem dL_tryLogBy_2 : decode cL_tryLogBy 2 = .ok (.invokevirtual 78, 3) := by decide +kernel
theorem dL_tryLogBy_5 : decode cL_tryLogBy 5 = .ok (.ireturn, 1) := by decide +kernel
theorem dL_tryLogBy_6 : decode cL_tryLogBy 6 = .ok (.astore_n 2, 1) := by decide +kernel
theorem dL_tryLogBy_7 : decode cL_tryLogBy 7 = .ok (.ldc 15, 2) := by decide +kernel
theorem dL_tryLogBy_9 : decode cL_tryLogBy 9 = .ok (.ireturn, 1) := by decide +kernel
theorem dL_trySteps_0 : decode cL_trySteps 0 = .ok (.aload_n 0, 1) := by decide +kernel
theorem dL_trySteps_1 : decode cL_trySteps 1 = .ok (.iload_n 1, 1) := by decide +kernel
theorem dL_trySteps_2 : decode cL_trySteps 2 = .ok (.invokevirtual 81, 3) := by decide +kernel
theorem dL_trySteps_5 : decode cL_trySteps 5 = .ok (.ireturn, 1) := by decide +kernel
theorem dL_trySteps_6 : decode cL_trySteps 6 = .ok (.astore_n 2, 1) := by decide +kernel
theorem dL_trySteps_7 : decode cL_trySteps 7 = .ok (.ldc 15, 2) := by decide +kernel
theorem dL_trySteps_9 : decode cL_trySteps 9 = .ok (.ireturn, 1) := by decide +kernel
theorem dL_tryNext_0 : decode cL_tryNext 0 = .ok (.aload_n 0, 1) := by decide +kernel
theorem dL_tryNext_1 : decode cL_tryNext 1 = .ok (.invokevirtual 84, 3) := by decide +kernel
theorem dL_tryNext_4 : decode cL_tryNext 4 = .ok (.ireturn, 1) := by decide +kernel
theorem dL_tryNext_5 : decode cL_tryNext 5 = .ok (.astore_n 1, 1) := by decide +kernel
theorem dL_tryNext_6 : decode cL_tryNext 6 = .ok (.ldc 18, 2) := by decide +kernel
theorem dL_tryNext_8 : decode cL_tryNext 8 = .ok (.ireturn, 1) := by decide +kernel
theorem dL_tryChange_0 : decode cL_tryChange 0 = .ok (.aload_n 0, 1) := by decide +kernel
theorem dL_tryChange_1 : decode cL_tryChange 1 = .ok (.invokevirtual 87, 3) := by decide +kernel
theorem dL_tryChange_4 : decode cL_tryChange 4 = .ok (.ireturn, 1) := by decide +kernel
theorem dL_tryChange_5 : decode cL_tryChange 5 = .ok (.astore_n 1, 1) := by decide +kernel
theorem dL_tryChange_6 : decode cL_tryChange 6 = .ok (.ldc 18, 2) := by decide +kernel
theorem dL_tryChange_8 : decode cL_tryChange 8 = .ok (.ireturn, 1) := by decide +kernel
theorem dL_tryBehind_0 : decode cL_tryBehind 0 = .ok (.aload_n 0, 1) := by decide +kernel
theorem dL_tryBehind_1 : decode cL_tryBehind 1 = .ok (.iload_n 1, 1) := by decide +kernel
theorem dL_tryBehind_2 : decode cL_tryBehind 2 = .ok (.iload_n 2, 1) := by decide +kernel
theorem dL_tryBehind_3 : decode cL_tryBehind 3 = .ok (.invokevirtual 90, 3) := by decide +kernel
theorem dL_tryBehind_6 : decode cL_tryBehind 6 = .ok (.ireturn, 1) := by decide +kernel
theorem dL_tryBehind_7 : decode cL_tryBehind 7 = .ok (.astore_n 3, 1) := by decide +kernel
theorem dL_tryBehind_8 : decode cL_tryBehind 8 = .ok (.ldc 15, 2) := by decide +kernel
theorem dL_tryBehind_10 : decode cL_tryBehind 10 = .ok (.ireturn, 1) := by decide +kernel
theorem dL_tryBehind_11 : decode cL_tryBehind 11 = .ok (.astore_n 3, 1) := by decide +kernel
theorem dL_tryBehind_12 : decode cL_tryBehind 12 = .ok (.ldc 32, 2) := by decide +kernel
theorem dL_tryBehind_14 : decode cL_tryBehind 14 = .ok (.ireturn, 1) := by decide +kernel
theorem dL_tryBehind_15 : decode cL_tryBehind 15 = .ok (.astore_n 3, 1) := by decide +kernel
theorem dL_tryBehind_16 : decode cL_tryBehind 16 = .ok (.ldc 18, 2) := by decide +kernel
theorem dL_tryBehind_18 : decode cL_tryBehind 18 = .ok (.ireturn, 1) := by decide +kernel
theorem dL_tryWithout_0 : decode cL_tryWithout 0 = .ok (.aload_n 0, 1) := by decide +kernel
theorem dL_tryWithout_1 : decode cL_tryWithout 1 = .ok (.invokevirtual 93, 3) := by decide +kernel
theorem dL_tryWithout_4 : decode cL_tryWithout 4 = .ok (.ireturn, 1) := by decide +kernel
theorem dL_tryWithout_5 : decode cL_tryWithout 5 = .ok (.astore_n 1, 1) := by decide +kernel
theorem dL_tryWithout_6 : decode cL_tryWithout 6 = .ok (.ldc 18, 2) := by decide +kernel
theorem dL_tryWithout_8 : decode cL_tryWithout 8 = .ok (.ireturn, 1) := by decide +kernel
theorem dL_tryWithWall_0 : decode cL_tryWithWall 0 = .ok (.aload_n 0, 1) := by decide +kernel
theorem dL_tryWithWall_1 : decode cL_tryWithWall 1 = .ok (.iload_n 1, 1) := by decide +kernel
theorem dL_tryWithWall_2 : decode cL_tryWithWall 2 = .ok (.invokevirtual 96, 3) := by decide +kernel
theorem dL_tryWithWall_5 : decode cL_tryWithWall 5 = .ok (.ireturn, 1) := by decide +kernel
theorem dL_tryWithWall_6 : decode cL_tryWithWall 6 = .ok (.astore_n 2, 1) := by decide +kernel
theorem dL_tryWithWall_7 : decode cL_tryWithWall 7 = .ok (.ldc 15, 2) := by decide +kernel
theorem dL_tryWithWall_9 : decode cL_tryWithWall 9 = .ok (.ireturn, 1) := by decide +kernel
theorem dL_tryWithWall_10 : decode cL_tryWithWall 10 = .ok (.astore_n 2, 1) := by decide +kernel
theorem dL_tryWithWall_11 : decode cL_tryWithWall 11 = .ok (.ldc 18, 2) := by decide +kernel
theorem dL_tryWithWall_13 : decode cL_tryWithWall 13 = .ok (.ireturn, 1) := by decide +kernel
theorem dL_call_0 : decode cL_call 0 = .ok (.iload_n 1, 1) := by decide +kernel
theorem dL_call_1 : decode cL_call 1 = .ok (.tableswitch 220 0 20 #[99, 108, 113, 120, 125, 130, 136, 141, 146, 151, 156, 162, 168, 174, 180, 186, 192, 198, 203, 208, 215], 99) := by decide +kernel
theorem dL_call_100 : decode cL_call 100 = .ok (.aload_n 0, 1) := by decide +kernel
theorem dL_call_101 : decode cL_call 101 = .ok (.iload_n 2, 1) := by decide +kernel
theorem dL_call_102 : decode cL_call 102 = .ok (.iload_n 3, 1) := by decide +kernel
theorem dL_call_103 : decode cL_call 103 = .ok (.iload 4, 2) := by decide +kernel
theorem dL_call_105 : decode cL_call 105 = .ok (.invokestatic 99, 3) := by decide +kernel
theorem dL_call_108 : decode cL_call 108 = .ok (.ireturn, 1) := by decide +kernel
theorem dL_call_109 : decode cL_call 109 = .ok (.aload_n 0, 1) := by decide +kernel
theorem dL_call_110 : decode cL_call 110 = .ok (.invokestatic 105, 3) := by decide +kernel
theorem dL_call_113 : decode cL_call 113 = .ok (.ireturn, 1) := by decide +kernel
theorem dL_call_114 : decode cL_call 114 = .ok (.aload_n 0, 1) := by decide +kernel
theorem dL_call_115 : decode cL_call 115 = .ok (.iload_n 2, 1) := by decide +kernel
theorem dL_call_116 : decode cL_call 116 = .ok (.iload_n 3, 1) := by decide +kernel
theorem dL_call_117 : decode cL_call 117 = .ok (.invokestatic 109, 3) := by decide +kernel
theorem dL_call_120 : decode cL_call 120 = .ok (.ireturn, 1) := by decide +kernel
theorem dL_call_121 : decode cL_call 121 = .ok (.aload_n 0, 1) := by decide +kernel
theorem dL_call_122 : decode cL_call 122 = .ok (.invokestatic 113, 3) := by decide +kernel
theorem dL_call_125 : decode cL_call 125 = .ok (.ireturn, 1) := by decide +kernel
theorem dL_call_126 : decode cL_call 126 = .ok (.aload_n 0, 1) := by decide +kernel
theorem dL_call_127 : decode cL_call 127 = .ok (.invokestatic 116, 3) := by decide +kernel
theorem dL_call_130 : decode cL_call 130 = .ok (.ireturn, 1) := by decide +kernel
theorem dL_call_131 : decode cL_call 131 = .ok (.aload_n 0, 1) := by decide +kernel
theorem dL_call_132 : decode cL_call 132 = .ok (.iload_n 2, 1) := by decide +kernel
theorem dL_call_133 : decode cL_call 133 = .ok (.invokestatic 119, 3) := by decide +kernel
theorem dL_call_136 : decode cL_call 136 = .ok (.ireturn, 1) := by decide +kernel
theorem dL_call_137 : decode cL_call 137 = .ok (.aload_n 0, 1) := by decide +kernel
theorem dL_call_138 : decode cL_call 138 = .ok (.invokestatic 123, 3) := by decide +kernel
theorem dL_call_141 : decode cL_call 141 = .ok (.ireturn, 1) := by decide +kernel
theorem dL_call_142 : decode cL_call 142 = .ok (.aload_n 0, 1) := by decide +kernel
theorem dL_call_143 : decode cL_call 143 = .ok (.invokestatic 126, 3) := by decide +kernel
theorem dL_call_146 : decode cL_call 146 = .ok (.ireturn, 1) := by decide +kernel
theorem dL_call_147 : decode cL_call 147 = .ok (.aload_n 0, 1) := by decide +kernel
theorem dL_call_148 : decode cL_call 148 = .ok (.invokestatic 129, 3) := by decide +kernel
theorem dL_call_151 : decode cL_call 151 = .ok (.ireturn, 1) := by decide +kernel
theorem dL_call_152 : decode cL_call 152 = .ok (.aload_n 0, 1) := by decide +kernel
theorem dL_call_153 : decode cL_call 153 = .ok (.invokestatic 132, 3) := by decide +kernel
theorem dL_call_156 : decode cL_call 156 = .ok (.ireturn, 1) := by decide +kernel
theorem dL_call_157 : decode cL_call 157 = .ok (.aload_n 0, 1) := by decide +kernel
theorem dL_call_158 : decode cL_call 158 = .ok (.iload_n 2, 1) := by decide +kernel
theorem dL_call_159 : decode cL_call 159 = .ok (.invokestatic 135, 3) := by decide +kernel
theorem dL_call_162 : decode cL_call 162 = .ok (.ireturn, 1) := by decide +kernel
theorem dL_call_163 : decode cL_call 163 = .ok (.aload_n 0, 1) := by decide +kernel
theorem dL_call_164 : decode cL_call 164 = .ok (.iload_n 2, 1) := by decide +kernel
theorem dL_call_165 : decode cL_call 165 = .ok (.invokestatic 138, 3) := by decide +kernel
theorem dL_call_168 : decode cL_call 168 = .ok (.ireturn, 1) := by decide +kernel
theorem dL_call_169 : decode cL_call 169 = .ok (.aload_n 0, 1) := by decide +kernel
theorem dL_call_170 : decode cL_call 170 = .ok (.iload_n 2, 1) := by decide +kernel
theorem dL_call_171 : decode cL_call 171 = .ok (.invokestatic 141, 3) := by decide +kernel
theorem dL_call_174 : decode cL_call 174 = .ok (.ireturn, 1) := by decide +kernel
theorem dL_call_175 : decode cL_call 175 = .ok (.aload_n 0, 1) := by decide +kernel
theorem dL_call_176 : decode cL_call 176 = .ok (.iload_n 2, 1) := by decide +kernel
theorem dL_call_177 : decode cL_call 177 = .ok (.invokestatic 144, 3) := by decide +kernel
theorem dL_call_180 : decode cL_call 180 = .ok (.ireturn, 1) := by decide +kernel
theorem dL_call_181 : decode cL_call 181 = .ok (.aload_n 0, 1) := by decide +kernel
theorem dL_call_182 : decode cL_call 182 = .ok (.iload_n 2, 1) := by decide +kernel
theorem dL_call_183 : decode cL_call 183 = .ok (.invokestatic 147, 3) := by decide +kernel
theorem dL_call_186 : decode cL_call 186 = .ok (.ireturn, 1) := by decide +kernel
theorem dL_call_187 : decode cL_call 187 = .ok (.aload_n 0, 1) := by decide +kernel
theorem dL_call_188 : decode cL_call 188 = .ok (.iload_n 2, 1) := by decide +kernel
theorem dL_call_189 : decode cL_call 189 = .ok (.invokestatic 150, 3) := by decide +kernel
theorem dL_call_192 : decode cL_call 192 = .ok (.ireturn, 1) := by decide +kernel
theorem dL_call_193 : decode cL_call 193 = .ok (.aload_n 0, 1) := by decide +kernel
theorem dL_call_194 : decode cL_call 194 = .ok (.iload_n 2, 1) := by decide +kernel
theorem dL_call_195 : decode cL_call 195 = .ok (.invokestatic 153, 3) := by decide +kernel
theorem dL_call_198 : decode cL_call 198 = .ok (.ireturn, 1) := by decide +kernel
theorem dL_call_199 : decode cL_call 199 = .ok (.aload_n 0, 1) := by decide +kernel
theorem dL_call_200 : decode cL_call 200 = .ok (.invokestatic 156, 3) := by decide +kernel
theorem dL_call_203 : decode cL_call 203 = .ok (.ireturn, 1) := by decide +kernel
theorem dL_call_204 : decode cL_call 204 = .ok (.aload_n 0, 1) := by decide +kernel
theorem dL_call_205 : decode cL_call 205 = .ok (.invokestatic 159, 3) := by decide +kernel
theorem dL_call_208 : decode cL_call 208 = .ok (.ireturn, 1) := by decide +kernel
theorem dL_call_209 : decode cL_call 209 = .ok (.aload_n 0, 1) := by decide +kernel
theorem dL_call_210 : decode cL_call 210 = .ok (.iload_n 2, 1) := by decide +kernel
theorem dL_call_211 : decode cL_call 211 = .ok (.iload_n 3, 1) := by decide +kernel
theorem dL_call_212 : decode cL_call 212 = .ok (.invokestatic 162, 3) := by decide +kernel
theorem dL_call_215 : decode cL_call 215 = .ok (.ireturn, 1) := by decide +kernel
theorem dL_call_216 : decode cL_call 216 = .ok (.aload_n 0, 1) := by decide +kernel
theorem dL_call_217 : decode cL_call 217 = .ok (.invokestatic 165, 3) := by decide +kernel
theorem dL_call_220 : decode cL_call 220 = .ok (.ireturn, 1) := by decide +kernel
theorem dL_call_221 : decode cL_call 221 = .ok (.aload_n 0, 1) := by decide +kernel
theorem dL_call_222 : decode cL_call 222 = .ok (.iload_n 2, 1) := by decide +kernel
theorem dL_call_223 : decode cL_call 223 = .ok (.invokestatic 168, 3) := by decide +kernel
theorem dL_call_226 : decode cL_call 226 = .ok (.ireturn, 1) := by decide +kernel
theorem dL_cell_0 : decode cL_cell 0 = .ok (.iload_n 1, 1) := by decide +kernel
theorem dL_cell_1 : decode cL_cell 1 = .ok (.aload_n 0, 1) := by decide +kernel
theorem dL_cell_2 : decode cL_cell 2 = .ok (.arraylength, 1) := by decide +kernel
theorem dL_cell_3 : decode cL_cell 3 = .ok (.if_icmp .ge 9, 3) := by decide +kernel
theorem dL_cell_6 : decode cL_cell 6 = .ok (.aload_n 0, 1) := by decide +kernel
theorem dL_cell_7 : decode cL_cell 7 = .ok (.iload_n 1, 1) := by decide +kernel
theorem dL_cell_8 : decode cL_cell 8 = .ok (.iaload, 1) := by decide +kernel
theorem dL_cell_9 : decode cL_cell 9 = .ok (.goto 13, 3) := by decide +kernel
theorem dL_cell_12 : decode cL_cell 12 = .ok (.ldc 171, 2) := by decide +kernel
theorem dL_cell_14 : decode cL_cell 14 = .ok (.iload_n 1, 1) := by decide +kernel
theorem dL_cell_15 : decode cL_cell 15 = .ok (.iconst 3, 1) := by decide +kernel
theorem dL_cell_16 : decode cL_cell 16 = .ok (.iadd, 1) := by decide +kernel
theorem dL_cell_17 : decode cL_cell 17 = .ok (.imul, 1) := by decide +kernel
theorem dL_cell_18 : decode cL_cell 18 = .ok (.sipush 12653, 3) := by decide +kernel
theorem dL_cell_21 : decode cL_cell 21 = .ok (.iadd, 1) := by decide +kernel
theorem dL_cell_22 : decode cL_cell 22 = .ok (.ldc 172, 2) := by decide +kernel
theorem dL_cell_24 : decode cL_cell 24 = .ok (.iand, 1) := by decide +kernel
theorem dL_cell_25 : decode cL_cell 25 = .ok (.ireturn, 1) := by decide +kernel
theorem dL_thrown_0 : decode cL_thrown 0 = .ok (.iload_n 0, 1) := by decide +kernel
theorem dL_thrown_1 : decode cL_thrown 1 = .ok (.ldc 15, 2) := by decide +kernel
theorem dL_thrown_3 : decode cL_thrown 3 = .ok (.if_icmp .eq 15, 3) := by decide +kernel
theorem dL_thrown_6 : decode cL_thrown 6 = .ok (.iload_n 0, 1) := by decide +kernel
theorem dL_thrown_7 : decode cL_thrown 7 = .ok (.ldc 32, 2) := by decide +kernel
theorem dL_thrown_9 : decode cL_thrown 9 = .ok (.if_icmp .eq 9, 3) := by decide +kernel
theorem dL_thrown_12 : decode cL_thrown 12 = .ok (.iload_n 0, 1) := by decide +kernel
theorem dL_thrown_13 : decode cL_thrown 13 = .ok (.ldc 18, 2) := by decide +kernel
theorem dL_thrown_15 : decode cL_thrown 15 = .ok (.if_icmp .ne 7, 3) := by decide +kernel
theorem dL_thrown_18 : decode cL_thrown 18 = .ok (.iconst 1, 1) := by decide +kernel
theorem dL_thrown_19 : decode cL_thrown 19 = .ok (.goto 4, 3) := by decide +kernel
theorem dL_thrown_22 : decode cL_thrown 22 = .ok (.iconst 0, 1) := by decide +kernel
theorem dL_thrown_23 : decode cL_thrown 23 = .ok (.ireturn, 1) := by decide +kernel
theorem dL_refuses_0 : decode cL_refuses 0 = .ok (.iload_n 1, 1) := by decide +kernel
theorem dL_refuses_1 : decode cL_refuses 1 = .ok (.iconst 2, 1) := by decide +kernel
theorem dL_refuses_2 : decode cL_refuses 2 = .ok (.irem, 1) := by decide +kernel
theorem dL_refuses_3 : decode cL_refuses 3 = .ok (.ifCond .ne 12, 3) := by decide +kernel
theorem dL_refuses_6 : decode cL_refuses 6 = .ok (.iconst (-1), 1) := by decide +kernel
theorem dL_refuses_7 : decode cL_refuses 7 = .ok (.iload_n 1, 1) := by decide +kernel
theorem dL_refuses_8 : decode cL_refuses 8 = .ok (.bipush 99, 2) := by decide +kernel
theorem dL_refuses_10 : decode cL_refuses 10 = .ok (.irem, 1) := by decide +kernel
theorem dL_refuses_11 : decode cL_refuses 11 = .ok (.isub, 1) := by decide +kernel
theorem dL_refuses_12 : decode cL_refuses 12 = .ok (.goto 12, 3) := by decide +kernel
theorem dL_refuses_15 : decode cL_refuses 15 = .ok (.aload_n 0, 1) := by decide +kernel
theorem dL_refuses_16 : decode cL_refuses 16 = .ok (.invokevirtual 173, 3) := by decide +kernel
theorem dL_refuses_19 : decode cL_refuses 19 = .ok (.iload_n 1, 1) := by decide +kernel
theorem dL_refuses_20 : decode cL_refuses 20 = .ok (.bipush 9, 2) := by decide +kernel
theorem dL_refuses_22 : decode cL_refuses 22 = .ok (.irem, 1) := by decide +kernel
theorem dL_refuses_23 : decode cL_refuses 23 = .ok (.iadd, 1) := by decide +kernel
theorem dL_refuses_24 : decode cL_refuses 24 = .ok (.istore_n 2, 1) := by decide +kernel
theorem dL_refuses_25 : decode cL_refuses 25 = .ok (.iload_n 1, 1) := by decide +kernel
theorem dL_refuses_26 : decode cL_refuses 26 = .ok (.iconst 2, 1) := by decide +kernel
theorem dL_refuses_27 : decode cL_refuses 27 = .ok (.irem, 1) := by decide +kernel
theorem dL_refuses_28 : decode cL_refuses 28 = .ok (.ifCond .ne 12, 3) := by decide +kernel
theorem dL_refuses_31 : decode cL_refuses 31 = .ok (.iconst (-1), 1) := by decide +kernel
theorem dL_refuses_32 : decode cL_refuses 32 = .ok (.iload_n 1, 1) := by decide +kernel
theorem dL_refuses_33 : decode cL_refuses 33 = .ok (.bipush 99, 2) := by decide +kernel
theorem dL_refuses_35 : decode cL_refuses 35 = .ok (.irem, 1) := by decide +kernel
theorem dL_refuses_36 : decode cL_refuses 36 = .ok (.isub, 1) := by decide +kernel
theorem dL_refuses_37 : decode cL_refuses 37 = .ok (.goto 10, 3) := by decide +kernel
theorem dL_refuses_40 : decode cL_refuses 40 = .ok (.bipush 25, 2) := by decide +kernel
theorem dL_refuses_42 : decode cL_refuses 42 = .ok (.iload_n 1, 1) := by decide +kernel
theorem dL_refuses_43 : decode cL_refuses 43 = .ok (.bipush 99, 2) := by decide +kernel
theorem dL_refuses_45 : decode cL_refuses 45 = .ok (.irem, 1) := by decide +kernel
theorem dL_refuses_46 : decode cL_refuses 46 = .ok (.iadd, 1) := by decide +kernel
theorem dL_refuses_47 : decode cL_refuses 47 = .ok (.istore_n 3, 1) := by decide +kernel
theorem dL_refuses_48 : decode cL_refuses 48 = .ok (.iload_n 1, 1) := by decide +kernel
theorem dL_refuses_49 : decode cL_refuses 49 = .ok (.bipush 10, 2) := by decide +kernel
theorem dL_refuses_51 : decode cL_refuses 51 = .ok (.irem, 1) := by decide +kernel
theorem dL_refuses_52 : decode cL_refuses 52 = .ok (.istore 4, 2) := by decide +kernel
theorem dL_refuses_54 : decode cL_refuses 54 = .ok (.aload_n 0, 1) := by decide +kernel
theorem dL_refuses_55 : decode cL_refuses 55 = .ok (.iconst 0, 1) := by decide +kernel
theorem dL_refuses_56 : decode cL_refuses 56 = .ok (.iload_n 1, 1) := by decide +kernel
theorem dL_refuses_57 : decode cL_refuses 57 = .ok (.iconst 2, 1) := by decide +kernel
theorem dL_refuses_58 : decode cL_refuses 58 = .ok (.irem, 1) := by decide +kernel
theorem dL_refuses_59 : decode cL_refuses 59 = .ok (.ifCond .ne 12, 3) := by decide +kernel
theorem dL_refuses_62 : decode cL_refuses 62 = .ok (.iconst (-1), 1) := by decide +kernel
theorem dL_refuses_63 : decode cL_refuses 63 = .ok (.iload_n 1, 1) := by decide +kernel
theorem dL_refuses_64 : decode cL_refuses 64 = .ok (.bipush 9, 2) := by decide +kernel
theorem dL_refuses_66 : decode cL_refuses 66 = .ok (.irem, 1) := by decide +kernel
theorem dL_refuses_67 : decode cL_refuses 67 = .ok (.isub, 1) := by decide +kernel
theorem dL_refuses_68 : decode cL_refuses 68 = .ok (.goto 10, 3) := by decide +kernel
theorem dL_refuses_71 : decode cL_refuses 71 = .ok (.bipush 10, 2) := by decide +kernel
theorem dL_refuses_73 : decode cL_refuses 73 = .ok (.iload_n 1, 1) := by decide +kernel
theorem dL_refuses_74 : decode cL_refuses 74 = .ok (.bipush 9, 2) := by decide +kernel
theorem dL_refuses_76 : decode cL_refuses 76 = .ok (.irem, 1) := by decide +kernel
theorem dL_refuses_77 : decode cL_refuses 77 = .ok (.iadd, 1) := by decide +kernel
theorem dL_refuses_78 : decode cL_refuses 78 = .ok (.bipush 9, 2) := by decide +kernel
theorem dL_refuses_80 : decode cL_refuses 80 = .ok (.bipush 9, 2) := by decide +kernel
theorem dL_refuses_82 : decode cL_refuses 82 = .ok (.invokestatic 176, 3) := by decide +kernel
theorem dL_refuses_85 : decode cL_refuses 85 = .ok (.ldc 15, 2) := by decide +kernel
theorem dL_refuses_87 : decode cL_refuses 87 = .ok (.if_icmp .ne 323, 3) := by decide +kernel
theorem dL_refuses_90 : decode cL_refuses 90 = .ok (.aload_n 0, 1) := by decide +kernel
theorem dL_refuses_91 : decode cL_refuses 91 = .ok (.iconst 0, 1) := by decide +kernel
theorem dL_refuses_92 : decode cL_refuses 92 = .ok (.iload 4, 2) := by decide +kernel
theorem dL_refuses_94 : decode cL_refuses 94 = .ok (.iconst 0, 1) := by decide +kernel
theorem dL_refuses_95 : decode cL_refuses 95 = .ok (.iload_n 1, 1) := by decide +kernel
theorem dL_refuses_96 : decode cL_refuses 96 = .ok (.iconst 2, 1) := by decide +kernel
theorem dL_refuses_97 : decode cL_refuses 97 = .ok (.irem, 1) := by decide +kernel
theorem dL_refuses_98 : decode cL_refuses 98 = .ok (.ifCond .ne 7, 3) := by decide +kernel
theorem dL_refuses_101 : decode cL_refuses 101 = .ok (.iconst 1, 1) := by decide +kernel
theorem dL_refuses_102 : decode cL_refuses 102 = .ok (.goto 4, 3) := by decide +kernel
theorem dL_refuses_105 : decode cL_refuses 105 = .ok (.iconst 4, 1) := by decide +kernel
theorem dL_refuses_106 : decode cL_refuses 106 = .ok (.invokestatic 176, 3) := by decide +kernel
theorem dL_refuses_109 : decode cL_refuses 109 = .ok (.ldc 32, 2) := by decide +kernel
theorem dL_refuses_111 : decode cL_refuses 111 = .ok (.if_icmp .ne 299, 3) := by decide +kernel
theorem dL_refuses_114 : decode cL_refuses 114 = .ok (.aload_n 0, 1) := by decide +kernel
theorem dL_refuses_115 : decode cL_refuses 115 = .ok (.iconst 0, 1) := by decide +kernel
theorem dL_refuses_116 : decode cL_refuses 116 = .ok (.iload 4, 2) := by decide +kernel
theorem dL_refuses_118 : decode cL_refuses 118 = .ok (.iconst (-1), 1) := by decide +kernel
theorem dL_refuses_119 : decode cL_refuses 119 = .ok (.iload_n 1, 1) := by decide +kernel
theorem dL_refuses_120 : decode cL_refuses 120 = .ok (.bipush 9, 2) := by decide +kernel
theorem dL_refuses_122 : decode cL_refuses 122 = .ok (.irem, 1) := by decide +kernel
theorem dL_refuses_123 : decode cL_refuses 123 = .ok (.isub, 1) := by decide +kernel
theorem dL_refuses_124 : decode cL_refuses 124 = .ok (.iconst 2, 1) := by decide +kernel
theorem dL_refuses_125 : decode cL_refuses 125 = .ok (.invokestatic 176, 3) := by decide +kernel
theorem dL_refuses_128 : decode cL_refuses 128 = .ok (.ldc 32, 2) := by decide +kernel
theorem dL_refuses_130 : decode cL_refuses 130 = .ok (.if_icmp .ne 280, 3) := by decide +kernel
theorem dL_refuses_133 : decode cL_refuses 133 = .ok (.aload_n 0, 1) := by decide +kernel
theorem dL_refuses_134 : decode cL_refuses 134 = .ok (.iconst 0, 1) := by decide +kernel
theorem dL_refuses_135 : decode cL_refuses 135 = .ok (.iload 4, 2) := by decide +kernel
theorem dL_refuses_137 : decode cL_refuses 137 = .ok (.iconst 3, 1) := by decide +kernel
theorem dL_refuses_138 : decode cL_refuses 138 = .ok (.iload_n 1, 1) := by decide +kernel
theorem dL_refuses_139 : decode cL_refuses 139 = .ok (.bipush 9, 2) := by decide +kernel
theorem dL_refuses_141 : decode cL_refuses 141 = .ok (.irem, 1) := by decide +kernel
theorem dL_refuses_142 : decode cL_refuses 142 = .ok (.iadd, 1) := by decide +kernel
theorem dL_refuses_143 : decode cL_refuses 143 = .ok (.iconst 3, 1) := by decide +kernel
theorem dL_refuses_144 : decode cL_refuses 144 = .ok (.invokestatic 176, 3) := by decide +kernel
theorem dL_refuses_147 : decode cL_refuses 147 = .ok (.ldc 32, 2) := by decide +kernel
theorem dL_refuses_149 : decode cL_refuses 149 = .ok (.if_icmp .ne 261, 3) := by decide +kernel
theorem dL_refuses_152 : decode cL_refuses 152 = .ok (.aload_n 0, 1) := by decide +kernel
theorem dL_refuses_153 : decode cL_refuses 153 = .ok (.iload_n 3, 1) := by decide +kernel
theorem dL_refuses_154 : decode cL_refuses 154 = .ok (.invokestatic 180, 3) := by decide +kernel
theorem dL_refuses_157 : decode cL_refuses 157 = .ok (.ldc 15, 2) := by decide +kernel
theorem dL_refuses_159 : decode cL_refuses 159 = .ok (.if_icmp .ne 251, 3) := by decide +kernel
theorem dL_refuses_162 : decode cL_refuses 162 = .ok (.aload_n 0, 1) := by decide +kernel
theorem dL_refuses_163 : decode cL_refuses 163 = .ok (.iconst 2, 1) := by decide +kernel
theorem dL_refuses_164 : decode cL_refuses 164 = .ok (.iload_n 2, 1) := by decide +kernel
theorem dL_refuses_165 : decode cL_refuses 165 = .ok (.iconst 0, 1) := by decide +kernel
theorem dL_refuses_166 : decode cL_refuses 166 = .ok (.iconst 0, 1) := by decide +kernel
theorem dL_refuses_167 : decode cL_refuses 167 = .ok (.invokestatic 176, 3) := by decide +kernel
theorem dL_refuses_170 : decode cL_refuses 170 = .ok (.ldc 15, 2) := by decide +kernel
theorem dL_refuses_172 : decode cL_refuses 172 = .ok (.if_icmp .ne 238, 3) := by decide +kernel
theorem dL_refuses_175 : decode cL_refuses 175 = .ok (.aload_n 0, 1) := by decide +kernel
theorem dL_refuses_176 : decode cL_refuses 176 = .ok (.bipush 6, 2) := by decide +kernel
theorem dL_refuses_178 : decode cL_refuses 178 = .ok (.iconst 0, 1) := by decide +kernel
theorem dL_refuses_179 : decode cL_refuses 179 = .ok (.iconst 0, 1) := by decide +kernel
theorem dL_refuses_180 : decode cL_refuses 180 = .ok (.iconst 0, 1) := by decide +kernel
theorem dL_refuses_181 : decode cL_refuses 181 = .ok (.invokestatic 176, 3) := by decide +kernel
theorem dL_refuses_184 : decode cL_refuses 184 = .ok (.ldc 32, 2) := by decide +kernel
theorem dL_refuses_186 : decode cL_refuses 186 = .ok (.if_icmp .ne 224, 3) := by decide +kernel
theorem dL_refuses_189 : decode cL_refuses 189 = .ok (.aload_n 0, 1) := by decide +kernel
theorem dL_refuses_190 : decode cL_refuses 190 = .ok (.bipush 7, 2) := by decide +kernel
theorem dL_refuses_192 : decode cL_refuses 192 = .ok (.iconst 0, 1) := by decide +kernel
theorem dL_refuses_193 : decode cL_refuses 193 = .ok (.iconst 0, 1) := by decide +kernel
theorem dL_refuses_194 : decode cL_refuses 194 = .ok (.iconst 0, 1) := by decide +kernel
theorem dL_refuses_195 : decode cL_refuses 195 = .ok (.invokestatic 176, 3) := by decide +kernel
theorem dL_refuses_198 : decode cL_refuses 198 = .ok (.ldc 18, 2) := by decide +kernel
theorem dL_refuses_200 : decode cL_refuses 200 = .ok (.if_icmp .ne 210, 3) := by decide +kernel
theorem dL_refuses_203 : decode cL_refuses 203 = .ok (.aload_n 0, 1) := by decide +kernel
theorem dL_refuses_204 : decode cL_refuses 204 = .ok (.iconst 5, 1) := by decide +kernel
theorem dL_refuses_205 : decode cL_refuses 205 = .ok (.iload_n 1, 1) := by decide +kernel
theorem dL_refuses_206 : decode cL_refuses 206 = .ok (.iconst 2, 1) := by decide +kernel
theorem dL_refuses_207 : decode cL_refuses 207 = .ok (.irem, 1) := by decide +kernel
theorem dL_refuses_208 : decode cL_refuses 208 = .ok (.ifCond .ne 8, 3) := by decide +kernel
theorem dL_refuses_211 : decode cL_refuses 211 = .ok (.bipush 32, 2) := by decide +kernel
theorem dL_refuses_213 : decode cL_refuses 213 = .ok (.goto 5, 3) := by decide +kernel
theorem dL_refuses_216 : decode cL_refuses 216 = .ok (.bipush 127, 2) := by decide +kernel
theorem dL_refuses_218 : decode cL_refuses 218 = .ok (.iconst 0, 1) := by decide +kernel
theorem dL_refuses_219 : decode cL_refuses 219 = .ok (.iconst 0, 1) := by decide +kernel
theorem dL_refuses_220 : decode cL_refuses 220 = .ok (.invokestatic 176, 3) := by decide +kernel
theorem dL_refuses_223 : decode cL_refuses 223 = .ok (.ldc 32, 2) := by decide +kernel
theorem dL_refuses_225 : decode cL_refuses 225 = .ok (.if_icmp .ne 185, 3) := by decide +kernel
theorem dL_refuses_228 : decode cL_refuses 228 = .ok (.aload_n 0, 1) := by decide +kernel
theorem dL_refuses_229 : decode cL_refuses 229 = .ok (.bipush 10, 2) := by decide +kernel
theorem dL_refuses_231 : decode cL_refuses 231 = .ok (.iload_n 2, 1) := by decide +kernel
theorem dL_refuses_232 : decode cL_refuses 232 = .ok (.iconst 0, 1) := by decide +kernel
theorem dL_refuses_233 : decode cL_refuses 233 = .ok (.iconst 0, 1) := by decide +kernel
theorem dL_refuses_234 : decode cL_refuses 234 = .ok (.invokestatic 176, 3) := by decide +kernel
theorem dL_refuses_237 : decode cL_refuses 237 = .ok (.ldc 15, 2) := by decide +kernel
theorem dL_refuses_239 : decode cL_refuses 239 = .ok (.if_icmp .ne 171, 3) := by decide +kernel
theorem dL_refuses_242 : decode cL_refuses 242 = .ok (.aload_n 0, 1) := by decide +kernel
theorem dL_refuses_243 : decode cL_refuses 243 = .ok (.bipush 11, 2) := by decide +kernel
theorem dL_refuses_245 : decode cL_refuses 245 = .ok (.iload_n 2, 1) := by decide +kernel
theorem dL_refuses_246 : decode cL_refuses 246 = .ok (.iconst 0, 1) := by decide +kernel
theorem dL_refuses_247 : decode cL_refuses 247 = .ok (.iconst 0, 1) := by decide +kernel
theorem dL_refuses_248 : decode cL_refuses 248 = .ok (.invokestatic 176, 3) := by decide +kernel
theorem dL_refuses_251 : decode cL_refuses 251 = .ok (.ldc 15, 2) := by decide +kernel
theorem dL_refuses_253 : decode cL_refuses 253 = .ok (.if_icmp .ne 157, 3) := by decide +kernel
theorem dL_refuses_256 : decode cL_refuses 256 = .ok (.aload_n 0, 1) := by decide +kernel
theorem dL_refuses_257 : decode cL_refuses 257 = .ok (.bipush 12, 2) := by decide +kernel
theorem dL_refuses_259 : decode cL_refuses 259 = .ok (.iload_n 2, 1) := by decide +kernel
theorem dL_refuses_260 : decode cL_refuses 260 = .ok (.iconst 0, 1) := by decide +kernel
theorem dL_refuses_261 : decode cL_refuses 261 = .ok (.iconst 0, 1) := by decide +kernel
theorem dL_refuses_262 : decode cL_refuses 262 = .ok (.invokestatic 176, 3) := by decide +kernel
theorem dL_refuses_265 : decode cL_refuses 265 = .ok (.ldc 15, 2) := by decide +kernel
theorem dL_refuses_267 : decode cL_refuses 267 = .ok (.if_icmp .ne 143, 3) := by decide +kernel
theorem dL_refuses_270 : decode cL_refuses 270 = .ok (.aload_n 0, 1) := by decide +kernel
theorem dL_refuses_271 : decode cL_refuses 271 = .ok (.bipush 13, 2) := by decide +kernel
theorem dL_refuses_273 : decode cL_refuses 273 = .ok (.iload_n 3, 1) := by decide +kernel
theorem dL_refuses_274 : decode cL_refuses 274 = .ok (.iconst 0, 1) := by decide +kernel
theorem dL_refuses_275 : decode cL_refuses 275 = .ok (.iconst 0, 1) := by decide +kernel
theorem dL_refuses_276 : decode cL_refuses 276 = .ok (.invokestatic 176, 3) := by decide +kernel
theorem dL_refuses_279 : decode cL_refuses 279 = .ok (.ldc 15, 2) := by decide +kernel
theorem dL_refuses_281 : decode cL_refuses 281 = .ok (.if_icmp .ne 129, 3) := by decide +kernel
theorem dL_refuses_284 : decode cL_refuses 284 = .ok (.aload_n 0, 1) := by decide +kernel
theorem dL_refuses_285 : decode cL_refuses 285 = .ok (.iload_n 3, 1) := by decide +kernel
theorem dL_refuses_286 : decode cL_refuses 286 = .ok (.invokestatic 183, 3) := by decide +kernel
theorem dL_refuses_289 : decode cL_refuses 289 = .ok (.ldc 15, 2) := by decide +kernel
theorem dL_refuses_291 : decode cL_refuses 291 = .ok (.if_icmp .ne 119, 3) := by decide +kernel
theorem dL_refuses_294 : decode cL_refuses 294 = .ok (.aload_n 0, 1) := by decide +kernel
theorem dL_refuses_295 : decode cL_refuses 295 = .ok (.iload_n 2, 1) := by decide +kernel
theorem dL_refuses_296 : decode cL_refuses 296 = .ok (.iload_n 1, 1) := by decide +kernel
theorem dL_refuses_297 : decode cL_refuses 297 = .ok (.iconst 2, 1) := by decide +kernel
theorem dL_refuses_298 : decode cL_refuses 298 = .ok (.irem, 1) := by decide +kernel
theorem dL_refuses_299 : decode cL_refuses 299 = .ok (.ifCond .ne 7, 3) := by decide +kernel
theorem dL_refuses_302 : decode cL_refuses 302 = .ok (.iconst 1, 1) := by decide +kernel
theorem dL_refuses_303 : decode cL_refuses 303 = .ok (.goto 4, 3) := by decide +kernel
theorem dL_refuses_306 : decode cL_refuses 306 = .ok (.iconst 0, 1) := by decide +kernel
theorem dL_refuses_307 : decode cL_refuses 307 = .ok (.invokestatic 185, 3) := by decide +kernel
theorem dL_refuses_310 : decode cL_refuses 310 = .ok (.ldc 15, 2) := by decide +kernel
theorem dL_refuses_312 : decode cL_refuses 312 = .ok (.if_icmp .ne 98, 3) := by decide +kernel
theorem dL_refuses_315 : decode cL_refuses 315 = .ok (.aload_n 0, 1) := by decide +kernel
theorem dL_refuses_316 : decode cL_refuses 316 = .ok (.bipush 14, 2) := by decide +kernel
theorem dL_refuses_318 : decode cL_refuses 318 = .ok (.iload_n 1, 1) := by decide +kernel
theorem dL_refuses_319 : decode cL_refuses 319 = .ok (.iconst 2, 1) := by decide +kernel
theorem dL_refuses_320 : decode cL_refuses 320 = .ok (.irem, 1) := by decide +kernel
theorem dL_refuses_321 : decode cL_refuses 321 = .ok (.ifCond .ne 7, 3) := by decide +kernel
theorem dL_refuses_324 : decode cL_refuses 324 = .ok (.iconst (-1), 1) := by decide +kernel
theorem dL_refuses_325 : decode cL_refuses 325 = .ok (.goto 7, 3) := by decide +kernel
theorem dL_refuses_328 : decode cL_refuses 328 = .ok (.aload_n 0, 1) := by decide +kernel
theorem dL_refuses_329 : decode cL_refuses 329 = .ok (.invokevirtual 188, 3) := by decide +kernel
theorem dL_refuses_332 : decode cL_refuses 332 = .ok (.iconst 0, 1) := by decide +kernel
theorem dL_refuses_333 : decode cL_refuses 333 = .ok (.iconst 0, 1) := by decide +kernel
theorem dL_refuses_334 : decode cL_refuses 334 = .ok (.invokestatic 176, 3) := by decide +kernel
theorem dL_refuses_337 : decode cL_refuses 337 = .ok (.ldc 15, 2) := by decide +kernel
theorem dL_refuses_339 : decode cL_refuses 339 = .ok (.if_icmp .ne 71, 3) := by decide +kernel
theorem dL_refuses_342 : decode cL_refuses 342 = .ok (.aload_n 0, 1) := by decide +kernel
theorem dL_refuses_343 : decode cL_refuses 343 = .ok (.bipush 15, 2) := by decide +kernel
theorem dL_refuses_345 : decode cL_refuses 345 = .ok (.aload_n 0, 1) := by decide +kernel
theorem dL_refuses_346 : decode cL_refuses 346 = .ok (.invokevirtual 188, 3) := by decide +kernel
theorem dL_refuses_349 : decode cL_refuses 349 = .ok (.iload_n 1, 1) := by decide +kernel
theorem dL_refuses_350 : decode cL_refuses 350 = .ok (.bipush 9, 2) := by decide +kernel
theorem dL_refuses_352 : decode cL_refuses 352 = .ok (.irem, 1) := by decide +kernel
theorem dL_refuses_353 : decode cL_refuses 353 = .ok (.iadd, 1) := by decide +kernel
theorem dL_refuses_354 : decode cL_refuses 354 = .ok (.iconst 0, 1) := by decide +kernel
theorem dL_refuses_355 : decode cL_refuses 355 = .ok (.iconst 0, 1) := by decide +kernel
theorem dL_refuses_356 : decode cL_refuses 356 = .ok (.invokestatic 176, 3) := by decide +kernel
theorem dL_refuses_359 : decode cL_refuses 359 = .ok (.ldc 15, 2) := by decide +kernel
theorem dL_refuses_361 : decode cL_refuses 361 = .ok (.if_icmp .ne 49, 3) := by decide +kernel
theorem dL_refuses_364 : decode cL_refuses 364 = .ok (.aload_n 0, 1) := by decide +kernel
theorem dL_refuses_365 : decode cL_refuses 365 = .ok (.bipush 16, 2) := by decide +kernel
theorem dL_refuses_367 : decode cL_refuses 367 = .ok (.iload_n 2, 1) := by decide +kernel
theorem dL_refuses_368 : decode cL_refuses 368 = .ok (.iconst 0, 1) := by decide +kernel
theorem dL_refuses_369 : decode cL_refuses 369 = .ok (.iconst 0, 1) := by decide +kernel
theorem dL_refuses_370 : decode cL_refuses 370 = .ok (.invokestatic 176, 3) := by decide +kernel
theorem dL_refuses_373 : decode cL_refuses 373 = .ok (.ldc 15, 2) := by decide +kernel
theorem dL_refuses_375 : decode cL_refuses 375 = .ok (.if_icmp .ne 35, 3) := by decide +kernel
theorem dL_refuses_378 : decode cL_refuses 378 = .ok (.aload_n 0, 1) := by decide +kernel
theorem dL_refuses_379 : decode cL_refuses 379 = .ok (.bipush 19, 2) := by decide +kernel
theorem dL_refuses_381 : decode cL_refuses 381 = .ok (.iload_n 2, 1) := by decide +kernel
theorem dL_refuses_382 : decode cL_refuses 382 = .ok (.iconst 0, 1) := by decide +kernel
theorem dL_refuses_383 : decode cL_refuses 383 = .ok (.iconst 0, 1) := by decide +kernel
theorem dL_refuses_384 : decode cL_refuses 384 = .ok (.invokestatic 176, 3) := by decide +kernel
theorem dL_refuses_387 : decode cL_refuses 387 = .ok (.ldc 15, 2) := by decide +kernel
theorem dL_refuses_389 : decode cL_refuses 389 = .ok (.if_icmp .ne 21, 3) := by decide +kernel
theorem dL_refuses_392 : decode cL_refuses 392 = .ok (.aload_n 0, 1) := by decide +kernel
theorem dL_refuses_393 : decode cL_refuses 393 = .ok (.bipush 21, 2) := by decide +kernel
theorem dL_refuses_395 : decode cL_refuses 395 = .ok (.iload_n 3, 1) := by decide +kernel
theorem dL_refuses_396 : decode cL_refuses 396 = .ok (.iconst 0, 1) := by decide +kernel
theorem dL_refuses_397 : decode cL_refuses 397 = .ok (.iconst 0, 1) := by decide +kernel
theorem dL_refuses_398 : decode cL_refuses 398 = .ok (.invokestatic 176, 3) := by decide +kernel
theorem dL_refuses_401 : decode cL_refuses 401 = .ok (.ldc 15, 2) := by decide +kernel
theorem dL_refuses_403 : decode cL_refuses 403 = .ok (.if_icmp .ne 7, 3) := by decide +kernel
theorem dL_refuses_406 : decode cL_refuses 406 = .ok (.iconst 1, 1) := by decide +kernel
theorem dL_refuses_407 : decode cL_refuses 407 = .ok (.goto 4, 3) := by decide +kernel
theorem dL_refuses_410 : decode cL_refuses 410 = .ok (.iconst 0, 1) := by decide +kernel
theorem dL_refuses_411 : decode cL_refuses 411 = .ok (.istore 5, 2) := by decide +kernel
theorem dL_refuses_413 : decode cL_refuses 413 = .ok (.iload_n 1, 1) := by decide +kernel
theorem dL_refuses_414 : decode cL_refuses 414 = .ok (.bipush 25, 2) := by decide +kernel
theorem dL_refuses_416 : decode cL_refuses 416 = .ok (.irem, 1) := by decide +kernel
theorem dL_refuses_417 : decode cL_refuses 417 = .ok (.istore 6, 2) := by decide +kernel
theorem dL_refuses_419 : decode cL_refuses 419 = .ok (.aload_n 0, 1) := by decide +kernel
theorem dL_refuses_420 : decode cL_refuses 420 = .ok (.bipush 13, 2) := by decide +kernel
theorem dL_refuses_422 : decode cL_refuses 422 = .ok (.iload 6, 2) := by decide +kernel
theorem dL_refuses_424 : decode cL_refuses 424 = .ok (.iconst 0, 1) := by decide +kernel
theorem dL_refuses_425 : decode cL_refuses 425 = .ok (.iconst 0, 1) := by decide +kernel
theorem dL_refuses_426 : decode cL_refuses 426 = .ok (.invokestatic 176, 3) := by decide +kernel
theorem dL_refuses_429 : decode cL_refuses 429 = .ok (.iconst (-1), 1) := by decide +kernel
theorem dL_refuses_430 : decode cL_refuses 430 = .ok (.if_icmp .eq 7, 3) := by decide +kernel
theorem dL_refuses_433 : decode cL_refuses 433 = .ok (.iconst 1, 1) := by decide +kernel
theorem dL_refuses_434 : decode cL_refuses 434 = .ok (.goto 4, 3) := by decide +kernel
theorem dL_refuses_437 : decode cL_refuses 437 = .ok (.iconst 0, 1) := by decide +kernel
theorem dL_refuses_438 : decode cL_refuses 438 = .ok (.istore 7, 2) := by decide +kernel
theorem dL_refuses_440 : decode cL_refuses 440 = .ok (.iload 5, 2) := by decide +kernel
theorem dL_refuses_442 : decode cL_refuses 442 = .ok (.ifCond .eq 230, 3) := by decide +kernel
theorem dL_refuses_445 : decode cL_refuses 445 = .ok (.iload 7, 2) := by decide +kernel
theorem dL_refuses_447 : decode cL_refuses 447 = .ok (.ifCond .eq 29, 3) := by decide +kernel
theorem dL_refuses_450 : decode cL_refuses 450 = .ok (.aload_n 0, 1) := by decide +kernel
theorem dL_refuses_451 : decode cL_refuses 451 = .ok (.iload 6, 2) := by decide +kernel
theorem dL_refuses_453 : decode cL_refuses 453 = .ok (.invokestatic 180, 3) := by decide +kernel
theorem dL_refuses_456 : decode cL_refuses 456 = .ok (.ldc 18, 2) := by decide +kernel
theorem dL_refuses_458 : decode cL_refuses 458 = .ok (.if_icmp .ne 214, 3) := by decide +kernel
theorem dL_refuses_461 : decode cL_refuses 461 = .ok (.aload_n 0, 1) := by decide +kernel
theorem dL_refuses_462 : decode cL_refuses 462 = .ok (.bipush 21, 2) := by decide +kernel
theorem dL_refuses_464 : decode cL_refuses 464 = .ok (.iload 6, 2) := by decide +kernel
theorem dL_refuses_466 : decode cL_refuses 466 = .ok (.iconst 0, 1) := by decide +kernel
theorem dL_refuses_467 : decode cL_refuses 467 = .ok (.iconst 0, 1) := by decide +kernel
theorem dL_refuses_468 : decode cL_refuses 468 = .ok (.invokestatic 176, 3) := by decide +kernel
theorem dL_refuses_471 : decode cL_refuses 471 = .ok (.ldc 18, 2) := by decide +kernel
theorem dL_refuses_473 : decode cL_refuses 473 = .ok (.if_icmp .ne 199, 3) := by decide +kernel
theorem dL_refuses_476 : decode cL_refuses 476 = .ok (.aload_n 0, 1) := by decide +kernel
theorem dL_refuses_477 : decode cL_refuses 477 = .ok (.iload 6, 2) := by decide +kernel
theorem dL_refuses_479 : decode cL_refuses 479 = .ok (.invokestatic 183, 3) := by decide +kernel
theorem dL_refuses_482 : decode cL_refuses 482 = .ok (.ifCond .eq 18, 3) := by decide +kernel
theorem dL_refuses_485 : decode cL_refuses 485 = .ok (.aload_n 0, 1) := by decide +kernel
theorem dL_refuses_486 : decode cL_refuses 486 = .ok (.bipush 21, 2) := by decide +kernel
theorem dL_refuses_488 : decode cL_refuses 488 = .ok (.iload 6, 2) := by decide +kernel
theorem dL_refuses_490 : decode cL_refuses 490 = .ok (.iconst 0, 1) := by decide +kernel
theorem dL_refuses_491 : decode cL_refuses 491 = .ok (.iconst 0, 1) := by decide +kernel
theorem dL_refuses_492 : decode cL_refuses 492 = .ok (.invokestatic 176, 3) := by decide +kernel
theorem dL_refuses_495 : decode cL_refuses 495 = .ok (.ldc 18, 2) := by decide +kernel
theorem dL_refuses_497 : decode cL_refuses 497 = .ok (.if_icmp .ne 175, 3) := by decide +kernel
theorem dL_refuses_500 : decode cL_refuses 500 = .ok (.aload_n 0, 1) := by decide +kernel
theorem dL_refuses_501 : decode cL_refuses 501 = .ok (.invokevirtual 191, 3) := by decide +kernel
theorem dL_refuses_504 : decode cL_refuses 504 = .ok (.iconst 4, 1) := by decide +kernel
theorem dL_refuses_505 : decode cL_refuses 505 = .ok (.if_icmp .lt 29, 3) := by decide +kernel
theorem dL_refuses_508 : decode cL_refuses 508 = .ok (.iload 7, 2) := by decide +kernel
theorem dL_refuses_510 : decode cL_refuses 510 = .ok (.ifCond .ne 24, 3) := by decide +kernel
theorem dL_refuses_513 : decode cL_refuses 513 = .ok (.aload_n 0, 1) := by decide +kernel
theorem dL_refuses_514 : decode cL_refuses 514 = .ok (.iload 6, 2) := by decide +kernel
theorem dL_refuses_516 : decode cL_refuses 516 = .ok (.invokestatic 183, 3) := by decide +kernel
theorem dL_refuses_519 : decode cL_refuses 519 = .ok (.iconst 1, 1) := by decide +kernel
theorem dL_refuses_520 : decode cL_refuses 520 = .ok (.if_icmp .eq 14, 3) := by decide +kernel
theorem dL_refuses_523 : decode cL_refuses 523 = .ok (.aload_n 0, 1) := by decide +kernel
theorem dL_refuses_524 : decode cL_refuses 524 = .ok (.iload 6, 2) := by decide +kernel
theorem dL_refuses_526 : decode cL_refuses 526 = .ok (.invokestatic 180, 3) := by decide +kernel
theorem dL_refuses_529 : decode cL_refuses 529 = .ok (.ldc 18, 2) := by decide +kernel
theorem dL_refuses_531 : decode cL_refuses 531 = .ok (.if_icmp .ne 141, 3) := by decide +kernel
theorem dL_refuses_534 : decode cL_refuses 534 = .ok (.aload_n 0, 1) := by decide +kernel
theorem dL_refuses_535 : decode cL_refuses 535 = .ok (.invokevirtual 188, 3) := by decide +kernel
theorem dL_refuses_538 : decode cL_refuses 538 = .ok (.ifCond .gt 16, 3) := by decide +kernel
theorem dL_refuses_541 : decode cL_refuses 541 = .ok (.aload_n 0, 1) := by decide +kernel
theorem dL_refuses_542 : decode cL_refuses 542 = .ok (.iconst 3, 1) := by decide +kernel
theorem dL_refuses_543 : decode cL_refuses 543 = .ok (.iconst 0, 1) := by decide +kernel
theorem dL_refuses_544 : decode cL_refuses 544 = .ok (.iconst 0, 1) := by decide +kernel
theorem dL_refuses_545 : decode cL_refuses 545 = .ok (.iconst 0, 1) := by decide +kernel
theorem dL_refuses_546 : decode cL_refuses 546 = .ok (.invokestatic 176, 3) := by decide +kernel
theorem dL_refuses_549 : decode cL_refuses 549 = .ok (.ldc 18, 2) := by decide +kernel
theorem dL_refuses_551 : decode cL_refuses 551 = .ok (.if_icmp .ne 121, 3) := by decide +kernel
theorem dL_refuses_554 : decode cL_refuses 554 = .ok (.aload_n 0, 1) := by decide +kernel
theorem dL_refuses_555 : decode cL_refuses 555 = .ok (.invokevirtual 173, 3) := by decide +kernel
theorem dL_refuses_558 : decode cL_refuses 558 = .ok (.iconst 1, 1) := by decide +kernel
theorem dL_refuses_559 : decode cL_refuses 559 = .ok (.if_icmp .gt 17, 3) := by decide +kernel
theorem dL_refuses_562 : decode cL_refuses 562 = .ok (.aload_n 0, 1) := by decide +kernel
theorem dL_refuses_563 : decode cL_refuses 563 = .ok (.bipush 20, 2) := by decide +kernel
theorem dL_refuses_565 : decode cL_refuses 565 = .ok (.iconst 0, 1) := by decide +kernel
theorem dL_refuses_566 : decode cL_refuses 566 = .ok (.iconst 0, 1) := by decide +kernel
theorem dL_refuses_567 : decode cL_refuses 567 = .ok (.iconst 0, 1) := by decide +kernel
theorem dL_refuses_568 : decode cL_refuses 568 = .ok (.invokestatic 176, 3) := by decide +kernel
theorem dL_refuses_571 : decode cL_refuses 571 = .ok (.ldc 18, 2) := by decide +kernel
theorem dL_refuses_573 : decode cL_refuses 573 = .ok (.if_icmp .ne 99, 3) := by decide +kernel
theorem dL_refuses_576 : decode cL_refuses 576 = .ok (.aload_n 0, 1) := by decide +kernel
theorem dL_refuses_577 : decode cL_refuses 577 = .ok (.invokevirtual 173, 3) := by decide +kernel
theorem dL_refuses_580 : decode cL_refuses 580 = .ok (.ifCond .gt 46, 3) := by decide +kernel
theorem dL_refuses_583 : decode cL_refuses 583 = .ok (.aload_n 0, 1) := by decide +kernel
theorem dL_refuses_584 : decode cL_refuses 584 = .ok (.iconst 1, 1) := by decide +kernel
theorem dL_refuses_585 : decode cL_refuses 585 = .ok (.iconst 0, 1) := by decide +kernel
theorem dL_refuses_586 : decode cL_refuses 586 = .ok (.iconst 0, 1) := by decide +kernel
theorem dL_refuses_587 : decode cL_refuses 587 = .ok (.iconst 0, 1) := by decide +kernel
theorem dL_refuses_588 : decode cL_refuses 588 = .ok (.invokestatic 176, 3) := by decide +kernel
theorem dL_refuses_591 : decode cL_refuses 591 = .ok (.ldc 18, 2) := by decide +kernel
theorem dL_refuses_593 : decode cL_refuses 593 = .ok (.if_icmp .ne 79, 3) := by decide +kernel
theorem dL_refuses_596 : decode cL_refuses 596 = .ok (.aload_n 0, 1) := by decide +kernel
theorem dL_refuses_597 : decode cL_refuses 597 = .ok (.iconst 4, 1) := by decide +kernel
theorem dL_refuses_598 : decode cL_refuses 598 = .ok (.iconst 0, 1) := by decide +kernel
theorem dL_refuses_599 : decode cL_refuses 599 = .ok (.iconst 0, 1) := by decide +kernel
theorem dL_refuses_600 : decode cL_refuses 600 = .ok (.iconst 0, 1) := by decide +kernel
theorem dL_refuses_601 : decode cL_refuses 601 = .ok (.invokestatic 176, 3) := by decide +kernel
theorem dL_refuses_604 : decode cL_refuses 604 = .ok (.ldc 18, 2) := by decide +kernel
theorem dL_refuses_606 : decode cL_refuses 606 = .ok (.if_icmp .ne 66, 3) := by decide +kernel
theorem dL_refuses_609 : decode cL_refuses 609 = .ok (.aload_n 0, 1) := by decide +kernel
theorem dL_refuses_610 : decode cL_refuses 610 = .ok (.iconst 0, 1) := by decide +kernel
theorem dL_refuses_611 : decode cL_refuses 611 = .ok (.iconst 5, 1) := by decide +kernel
theorem dL_refuses_612 : decode cL_refuses 612 = .ok (.iload_n 1, 1) := by decide +kernel
theorem dL_refuses_613 : decode cL_refuses 613 = .ok (.iconst 5, 1) := by decide +kernel
theorem dL_refuses_614 : decode cL_refuses 614 = .ok (.irem, 1) := by decide +kernel
theorem dL_refuses_615 : decode cL_refuses 615 = .ok (.iadd, 1) := by decide +kernel
theorem dL_refuses_616 : decode cL_refuses 616 = .ok (.iconst 0, 1) := by decide +kernel
theorem dL_refuses_617 : decode cL_refuses 617 = .ok (.iconst 2, 1) := by decide +kernel
theorem dL_refuses_618 : decode cL_refuses 618 = .ok (.invokestatic 176, 3) := by decide +kernel
theorem dL_refuses_621 : decode cL_refuses 621 = .ok (.ldc 18, 2) := by decide +kernel
theorem dL_refuses_623 : decode cL_refuses 623 = .ok (.if_icmp .ne 49, 3) := by decide +kernel
theorem dL_refuses_626 : decode cL_refuses 626 = .ok (.aload_n 0, 1) := by decide +kernel
theorem dL_refuses_627 : decode cL_refuses 627 = .ok (.invokevirtual 173, 3) := by decide +kernel
theorem dL_refuses_630 : decode cL_refuses 630 = .ok (.ifCond .le 10, 3) := by decide +kernel
theorem dL_refuses_633 : decode cL_refuses 633 = .ok (.aload_n 0, 1) := by decide +kernel
theorem dL_refuses_634 : decode cL_refuses 634 = .ok (.invokevirtual 194, 3) := by decide +kernel
theorem dL_refuses_637 : decode cL_refuses 637 = .ok (.ifCond .eq 31, 3) := by decide +kernel
theorem dL_refuses_640 : decode cL_refuses 640 = .ok (.aload_n 0, 1) := by decide +kernel
theorem dL_refuses_641 : decode cL_refuses 641 = .ok (.bipush 17, 2) := by decide +kernel
theorem dL_refuses_643 : decode cL_refuses 643 = .ok (.iconst 0, 1) := by decide +kernel
theorem dL_refuses_644 : decode cL_refuses 644 = .ok (.iconst 0, 1) := by decide +kernel
theorem dL_refuses_645 : decode cL_refuses 645 = .ok (.iconst 0, 1) := by decide +kernel
theorem dL_refuses_646 : decode cL_refuses 646 = .ok (.invokestatic 176, 3) := by decide +kernel
theorem dL_refuses_649 : decode cL_refuses 649 = .ok (.ldc 18, 2) := by decide +kernel
theorem dL_refuses_651 : decode cL_refuses 651 = .ok (.if_icmp .ne 21, 3) := by decide +kernel
theorem dL_refuses_654 : decode cL_refuses 654 = .ok (.aload_n 0, 1) := by decide +kernel
theorem dL_refuses_655 : decode cL_refuses 655 = .ok (.bipush 18, 2) := by decide +kernel
theorem dL_refuses_657 : decode cL_refuses 657 = .ok (.iconst 0, 1) := by decide +kernel
theorem dL_refuses_658 : decode cL_refuses 658 = .ok (.iconst 0, 1) := by decide +kernel
theorem dL_refuses_659 : decode cL_refuses 659 = .ok (.iconst 0, 1) := by decide +kernel
theorem dL_refuses_660 : decode cL_refuses 660 = .ok (.invokestatic 176, 3) := by decide +kernel
theorem dL_refuses_663 : decode cL_refuses 663 = .ok (.ldc 18, 2) := by decide +kernel
theorem dL_refuses_665 : decode cL_refuses 665 = .ok (.if_icmp .ne 7, 3) := by decide +kernel
theorem dL_refuses_668 : decode cL_refuses 668 = .ok (.iconst 1, 1) := by decide +kernel
theorem dL_refuses_669 : decode cL_refuses 669 = .ok (.goto 4, 3) := by decide +kernel
theorem dL_refuses_672 : decode cL_refuses 672 = .ok (.iconst 0, 1) := by decide +kernel
theorem dL_refuses_673 : decode cL_refuses 673 = .ok (.istore 5, 2) := by decide +kernel
theorem dL_refuses_675 : decode cL_refuses 675 = .ok (.aload_n 0, 1) := by decide +kernel
theorem dL_refuses_676 : decode cL_refuses 676 = .ok (.invokevirtual 173, 3) := by decide +kernel
theorem dL_refuses_679 : decode cL_refuses 679 = .ok (.ifCond .eq 8, 3) := by decide +kernel
theorem dL_refuses_682 : decode cL_refuses 682 = .ok (.iload 5, 2) := by decide +kernel
theorem dL_refuses_684 : decode cL_refuses 684 = .ok (.ifCond .ne 6, 3) := by decide +kernel
theorem dL_refuses_687 : decode cL_refuses 687 = .ok (.iload 5, 2) := by decide +kernel
theorem dL_refuses_689 : decode cL_refuses 689 = .ok (.ireturn, 1) := by decide +kernel
theorem dL_refuses_690 : decode cL_refuses 690 = .ok (.iload_n 1, 1) := by decide +kernel
theorem dL_refuses_691 : decode cL_refuses 691 = .ok (.bipush 8, 2) := by decide +kernel
theorem dL_refuses_693 : decode cL_refuses 693 = .ok (.idiv, 1) := by decide +kernel
theorem dL_refuses_694 : decode cL_refuses 694 = .ok (.aload_n 0, 1) := by decide +kernel
theorem dL_refuses_695 : decode cL_refuses 695 = .ok (.invokevirtual 173, 3) := by decide +kernel
theorem dL_refuses_698 : decode cL_refuses 698 = .ok (.irem, 1) := by decide +kernel
theorem dL_refuses_699 : decode cL_refuses 699 = .ok (.istore 8, 2) := by decide +kernel
theorem dL_refuses_701 : decode cL_refuses 701 = .ok (.iconst 1, 1) := by decide +kernel
theorem dL_refuses_702 : decode cL_refuses 702 = .ok (.iload_n 1, 1) := by decide +kernel
theorem dL_refuses_703 : decode cL_refuses 703 = .ok (.iconst 3, 1) := by decide +kernel
theorem dL_refuses_704 : decode cL_refuses 704 = .ok (.irem, 1) := by decide +kernel
theorem dL_refuses_705 : decode cL_refuses 705 = .ok (.iadd, 1) := by decide +kernel
theorem dL_refuses_706 : decode cL_refuses 706 = .ok (.istore 9, 2) := by decide +kernel
theorem dL_refuses_708 : decode cL_refuses 708 = .ok (.aload_n 0, 1) := by decide +kernel
theorem dL_refuses_709 : decode cL_refuses 709 = .ok (.iconst 2, 1) := by decide +kernel
theorem dL_refuses_710 : decode cL_refuses 710 = .ok (.iload 8, 2) := by decide +kernel
theorem dL_refuses_712 : decode cL_refuses 712 = .ok (.iconst 0, 1) := by decide +kernel
theorem dL_refuses_713 : decode cL_refuses 713 = .ok (.iconst 0, 1) := by decide +kernel
theorem dL_refuses_714 : decode cL_refuses 714 = .ok (.invokestatic 176, 3) := by decide +kernel
theorem dL_refuses_717 : decode cL_refuses 717 = .ok (.ldc 32, 2) := by decide +kernel
theorem dL_refuses_719 : decode cL_refuses 719 = .ok (.if_icmp .ne 167, 3) := by decide +kernel
theorem dL_refuses_722 : decode cL_refuses 722 = .ok (.aload_n 0, 1) := by decide +kernel
theorem dL_refuses_723 : decode cL_refuses 723 = .ok (.iconst 2, 1) := by decide +kernel
theorem dL_refuses_724 : decode cL_refuses 724 = .ok (.iload 8, 2) := by decide +kernel
theorem dL_refuses_726 : decode cL_refuses 726 = .ok (.iconst 4, 1) := by decide +kernel
theorem dL_refuses_727 : decode cL_refuses 727 = .ok (.iload_n 1, 1) := by decide +kernel
theorem dL_refuses_728 : decode cL_refuses 728 = .ok (.bipush 9, 2) := by decide +kernel
theorem dL_refuses_730 : decode cL_refuses 730 = .ok (.irem, 1) := by decide +kernel
theorem dL_refuses_731 : decode cL_refuses 731 = .ok (.iadd, 1) := by decide +kernel
theorem dL_refuses_732 : decode cL_refuses 732 = .ok (.iconst 0, 1) := by decide +kernel
theorem dL_refuses_733 : decode cL_refuses 733 = .ok (.invokestatic 176, 3) := by decide +kernel
theorem dL_refuses_736 : decode cL_refuses 736 = .ok (.ldc 32, 2) := by decide +kernel
theorem dL_refuses_738 : decode cL_refuses 738 = .ok (.if_icmp .ne 148, 3) := by decide +kernel
theorem dL_refuses_741 : decode cL_refuses 741 = .ok (.aload_n 0, 1) := by decide +kernel
theorem dL_refuses_742 : decode cL_refuses 742 = .ok (.bipush 19, 2) := by decide +kernel
theorem dL_refuses_744 : decode cL_refuses 744 = .ok (.iload 8, 2) := by decide +kernel
theorem dL_refuses_746 : decode cL_refuses 746 = .ok (.bipush (-4), 2) := by decide +kernel
theorem dL_refuses_748 : decode cL_refuses 748 = .ok (.iconst 0, 1) := by decide +kernel
theorem dL_refuses_749 : decode cL_refuses 749 = .ok (.invokestatic 176, 3) := by decide +kernel
theorem dL_refuses_752 : decode cL_refuses 752 = .ok (.ldc 32, 2) := by decide +kernel
theorem dL_refuses_754 : decode cL_refuses 754 = .ok (.if_icmp .ne 132, 3) := by decide +kernel
theorem dL_refuses_757 : decode cL_refuses 757 = .ok (.aload_n 0, 1) := by decide +kernel
theorem dL_refuses_758 : decode cL_refuses 758 = .ok (.iload 8, 2) := by decide +kernel
theorem dL_refuses_760 : decode cL_refuses 760 = .ok (.iconst 1, 1) := by decide +kernel
theorem dL_refuses_761 : decode cL_refuses 761 = .ok (.invokestatic 185, 3) := by decide +kernel
theorem dL_refuses_764 : decode cL_refuses 764 = .ok (.iload 9, 2) := by decide +kernel
theorem dL_refuses_766 : decode cL_refuses 766 = .ok (.if_icmp .ge 34, 3) := by decide +kernel
theorem dL_refuses_769 : decode cL_refuses 769 = .ok (.aload_n 0, 1) := by decide +kernel
theorem dL_refuses_770 : decode cL_refuses 770 = .ok (.iconst 2, 1) := by decide +kernel
theorem dL_refuses_771 : decode cL_refuses 771 = .ok (.iload 8, 2) := by decide +kernel
theorem dL_refuses_773 : decode cL_refuses 773 = .ok (.iload 9, 2) := by decide +kernel
theorem dL_refuses_775 : decode cL_refuses 775 = .ok (.iconst 0, 1) := by decide +kernel
theorem dL_refuses_776 : decode cL_refuses 776 = .ok (.invokestatic 176, 3) := by decide +kernel
end
section
theorem dL_refuses_779 : decode cL_refuses 779 = .ok (.ldc 18, 2) := by decide +kernel
theorem dL_refuses_781 : decode cL_refuses 781 = .ok (.if_icmp .ne 105, 3) := by decide +kernel
theorem dL_refuses_784 : decode cL_refuses 784 = .ok (.aload_n 0, 1) := by decide +kernel
theorem dL_refuses_785 : decode cL_refuses 785 = .ok (.bipush 19, 2) := by decide +kernel
theorem dL_refuses_787 : decode cL_refuses 787 = .ok (.iload 8, 2) := by decide +kernel
theorem dL_refuses_789 : decode cL_refuses 789 = .ok (.iload 9, 2) := by decide +kernel
theorem dL_refuses_791 : decode cL_refuses 791 = .ok (.iconst 0, 1) := by decide +kernel
theorem dL_refuses_792 : decode cL_refuses 792 = .ok (.invokestatic 176, 3) := by decide +kernel
theorem dL_refuses_795 : decode cL_refuses 795 = .ok (.ldc 18, 2) := by decide +kernel
theorem dL_refuses_797 : decode cL_refuses 797 = .ok (.if_icmp .ne 89, 3) := by decide +kernel
theorem dL_refuses_800 : decode cL_refuses 800 = .ok (.aload_n 0, 1) := by decide +kernel
theorem dL_refuses_801 : decode cL_refuses 801 = .ok (.iload 8, 2) := by decide +kernel
theorem dL_refuses_803 : decode cL_refuses 803 = .ok (.iconst 0, 1) := by decide +kernel
theorem dL_refuses_804 : decode cL_refuses 804 = .ok (.invokestatic 185, 3) := by decide +kernel
theorem dL_refuses_807 : decode cL_refuses 807 = .ok (.iload 9, 2) := by decide +kernel
theorem dL_refuses_809 : decode cL_refuses 809 = .ok (.if_icmp .ge 19, 3) := by decide +kernel
theorem dL_refuses_812 : decode cL_refuses 812 = .ok (.aload_n 0, 1) := by decide +kernel
theorem dL_refuses_813 : decode cL_refuses 813 = .ok (.iconst 2, 1) := by decide +kernel
theorem dL_refuses_814 : decode cL_refuses 814 = .ok (.iload 8, 2) := by decide +kernel
theorem dL_refuses_816 : decode cL_refuses 816 = .ok (.iload 9, 2) := by decide +kernel
theorem dL_refuses_818 : decode cL_refuses 818 = .ok (.ineg, 1) := by decide +kernel
theorem dL_refuses_819 : decode cL_refuses 819 = .ok (.iconst 0, 1) := by decide +kernel
theorem dL_refuses_820 : decode cL_refuses 820 = .ok (.invokestatic 176, 3) := by decide +kernel
theorem dL_refuses_823 : decode cL_refuses 823 = .ok (.ldc 18, 2) := by decide +kernel
theorem dL_refuses_825 : decode cL_refuses 825 = .ok (.if_icmp .ne 61, 3) := by decide +kernel
theorem dL_refuses_828 : decode cL_refuses 828 = .ok (.aload_n 0, 1) := by decide +kernel
theorem dL_refuses_829 : decode cL_refuses 829 = .ok (.invokevirtual 173, 3) := by decide +kernel
theorem dL_refuses_832 : decode cL_refuses 832 = .ok (.bipush 6, 2) := by decide +kernel
theorem dL_refuses_834 : decode cL_refuses 834 = .ok (.if_icmp .lt 17, 3) := by decide +kernel
theorem dL_refuses_837 : decode cL_refuses 837 = .ok (.aload_n 0, 1) := by decide +kernel
theorem dL_refuses_838 : decode cL_refuses 838 = .ok (.iconst 0, 1) := by decide +kernel
theorem dL_refuses_839 : decode cL_refuses 839 = .ok (.iload 4, 2) := by decide +kernel
theorem dL_refuses_841 : decode cL_refuses 841 = .ok (.iconst 0, 1) := by decide +kernel
theorem dL_refuses_842 : decode cL_refuses 842 = .ok (.iconst 2, 1) := by decide +kernel
theorem dL_refuses_843 : decode cL_refuses 843 = .ok (.invokestatic 176, 3) := by decide +kernel
theorem dL_refuses_846 : decode cL_refuses 846 = .ok (.ldc 18, 2) := by decide +kernel
theorem dL_refuses_848 : decode cL_refuses 848 = .ok (.if_icmp .ne 38, 3) := by decide +kernel
theorem dL_refuses_851 : decode cL_refuses 851 = .ok (.aload_n 0, 1) := by decide +kernel
theorem dL_refuses_852 : decode cL_refuses 852 = .ok (.iconst 0, 1) := by decide +kernel
theorem dL_refuses_853 : decode cL_refuses 853 = .ok (.aload_n 0, 1) := by decide +kernel
theorem dL_refuses_854 : decode cL_refuses 854 = .ok (.bipush 10, 2) := by decide +kernel
theorem dL_refuses_856 : decode cL_refuses 856 = .ok (.iload 8, 2) := by decide +kernel
theorem dL_refuses_858 : decode cL_refuses 858 = .ok (.iconst 0, 1) := by decide +kernel
theorem dL_refuses_859 : decode cL_refuses 859 = .ok (.iconst 0, 1) := by decide +kernel
theorem dL_refuses_860 : decode cL_refuses 860 = .ok (.invokestatic 176, 3) := by decide +kernel
theorem dL_refuses_863 : decode cL_refuses 863 = .ok (.aload_n 0, 1) := by decide +kernel
theorem dL_refuses_864 : decode cL_refuses 864 = .ok (.bipush 11, 2) := by decide +kernel
theorem dL_refuses_866 : decode cL_refuses 866 = .ok (.iload 8, 2) := by decide +kernel
theorem dL_refuses_868 : decode cL_refuses 868 = .ok (.iconst 0, 1) := by decide +kernel
theorem dL_refuses_869 : decode cL_refuses 869 = .ok (.iconst 0, 1) := by decide +kernel
theorem dL_refuses_870 : decode cL_refuses 870 = .ok (.invokestatic 176, 3) := by decide +kernel
theorem dL_refuses_873 : decode cL_refuses 873 = .ok (.iconst 2, 1) := by decide +kernel
theorem dL_refuses_874 : decode cL_refuses 874 = .ok (.invokestatic 176, 3) := by decide +kernel
theorem dL_refuses_877 : decode cL_refuses 877 = .ok (.ldc 18, 2) := by decide +kernel
theorem dL_refuses_879 : decode cL_refuses 879 = .ok (.if_icmp .ne 7, 3) := by decide +kernel
theorem dL_refuses_882 : decode cL_refuses 882 = .ok (.iconst 1, 1) := by decide +kernel
theorem dL_refuses_883 : decode cL_refuses 883 = .ok (.goto 4, 3) := by decide +kernel
theorem dL_refuses_886 : decode cL_refuses 886 = .ok (.iconst 0, 1) := by decide +kernel
theorem dL_refuses_887 : decode cL_refuses 887 = .ok (.ireturn, 1) := by decide +kernel
theorem dL_holds_0 : decode cL_holds 0 = .ok (.aload_n 0, 1) := by decide +kernel
theorem dL_holds_1 : decode cL_holds 1 = .ok (.invokevirtual 173, 3) := by decide +kernel
theorem dL_holds_4 : decode cL_holds 4 = .ok (.istore_n 1, 1) := by decide +kernel
theorem dL_holds_5 : decode cL_holds 5 = .ok (.iconst 0, 1) := by decide +kernel
theorem dL_holds_6 : decode cL_holds 6 = .ok (.istore_n 2, 1) := by decide +kernel
theorem dL_holds_7 : decode cL_holds 7 = .ok (.iconst 0, 1) := by decide +kernel
theorem dL_holds_8 : decode cL_holds 8 = .ok (.istore_n 3, 1) := by decide +kernel
theorem dL_holds_9 : decode cL_holds 9 = .ok (.iconst 0, 1) := by decide +kernel
theorem dL_holds_10 : decode cL_holds 10 = .ok (.istore 4, 2) := by decide +kernel
theorem dL_holds_12 : decode cL_holds 12 = .ok (.iload_n 1, 1) := by decide +kernel
theorem dL_holds_13 : decode cL_holds 13 = .ok (.bipush 6, 2) := by decide +kernel
theorem dL_holds_15 : decode cL_holds 15 = .ok (.if_icmp .gt 24, 3) := by decide +kernel
theorem dL_holds_18 : decode cL_holds 18 = .ok (.aload_n 0, 1) := by decide +kernel
theorem dL_holds_19 : decode cL_holds 19 = .ok (.invokevirtual 191, 3) := by decide +kernel
theorem dL_holds_22 : decode cL_holds 22 = .ok (.iconst 4, 1) := by decide +kernel
theorem dL_holds_23 : decode cL_holds 23 = .ok (.if_icmp .gt 16, 3) := by decide +kernel
theorem dL_holds_26 : decode cL_holds 26 = .ok (.aload_n 0, 1) := by decide +kernel
theorem dL_holds_27 : decode cL_holds 27 = .ok (.invokevirtual 188, 3) := by decide +kernel
theorem dL_holds_30 : decode cL_holds 30 = .ok (.bipush 60, 2) := by decide +kernel
theorem dL_holds_32 : decode cL_holds 32 = .ok (.if_icmp .gt 7, 3) := by decide +kernel
theorem dL_holds_35 : decode cL_holds 35 = .ok (.iconst 1, 1) := by decide +kernel
theorem dL_holds_36 : decode cL_holds 36 = .ok (.goto 4, 3) := by decide +kernel
theorem dL_holds_39 : decode cL_holds 39 = .ok (.iconst 0, 1) := by decide +kernel
theorem dL_holds_40 : decode cL_holds 40 = .ok (.istore 5, 2) := by decide +kernel
theorem dL_holds_42 : decode cL_holds 42 = .ok (.iconst 0, 1) := by decide +kernel
theorem dL_holds_43 : decode cL_holds 43 = .ok (.istore 6, 2) := by decide +kernel
theorem dL_holds_45 : decode cL_holds 45 = .ok (.iload 6, 2) := by decide +kernel
theorem dL_holds_47 : decode cL_holds 47 = .ok (.iload_n 1, 1) := by decide +kernel
theorem dL_holds_48 : decode cL_holds 48 = .ok (.if_icmp .ge 306, 3) := by decide +kernel
theorem dL_holds_51 : decode cL_holds 51 = .ok (.iload 5, 2) := by decide +kernel
theorem dL_holds_53 : decode cL_holds 53 = .ok (.ifCond .eq 301, 3) := by decide +kernel
theorem dL_holds_56 : decode cL_holds 56 = .ok (.aload_n 0, 1) := by decide +kernel
theorem dL_holds_57 : decode cL_holds 57 = .ok (.bipush 10, 2) := by decide +kernel
theorem dL_holds_59 : decode cL_holds 59 = .ok (.iload 6, 2) := by decide +kernel
theorem dL_holds_61 : decode cL_holds 61 = .ok (.iconst 0, 1) := by decide +kernel
theorem dL_holds_62 : decode cL_holds 62 = .ok (.iconst 0, 1) := by decide +kernel
theorem dL_holds_63 : decode cL_holds 63 = .ok (.invokestatic 176, 3) := by decide +kernel
theorem dL_holds_66 : decode cL_holds 66 = .ok (.istore 7, 2) := by decide +kernel
theorem dL_holds_68 : decode cL_holds 68 = .ok (.aload_n 0, 1) := by decide +kernel
theorem dL_holds_69 : decode cL_holds 69 = .ok (.bipush 11, 2) := by decide +kernel
theorem dL_holds_71 : decode cL_holds 71 = .ok (.iload 6, 2) := by decide +kernel
theorem dL_holds_73 : decode cL_holds 73 = .ok (.iconst 0, 1) := by decide +kernel
theorem dL_holds_74 : decode cL_holds 74 = .ok (.iconst 0, 1) := by decide +kernel
theorem dL_holds_75 : decode cL_holds 75 = .ok (.invokestatic 176, 3) := by decide +kernel
theorem dL_holds_78 : decode cL_holds 78 = .ok (.istore 8, 2) := by decide +kernel
theorem dL_holds_80 : decode cL_holds 80 = .ok (.aload_n 0, 1) := by decide +kernel
theorem dL_holds_81 : decode cL_holds 81 = .ok (.bipush 12, 2) := by decide +kernel
theorem dL_holds_83 : decode cL_holds 83 = .ok (.iload 6, 2) := by decide +kernel
theorem dL_holds_85 : decode cL_holds 85 = .ok (.iconst 0, 1) := by decide +kernel
theorem dL_holds_86 : decode cL_holds 86 = .ok (.iconst 0, 1) := by decide +kernel
theorem dL_holds_87 : decode cL_holds 87 = .ok (.invokestatic 176, 3) := by decide +kernel
theorem dL_holds_90 : decode cL_holds 90 = .ok (.istore 9, 2) := by decide +kernel
theorem dL_holds_92 : decode cL_holds 92 = .ok (.iconst 0, 1) := by decide +kernel
theorem dL_holds_93 : decode cL_holds 93 = .ok (.istore 10, 2) := by decide +kernel
theorem dL_holds_95 : decode cL_holds 95 = .ok (.iconst 0, 1) := by decide +kernel
theorem dL_holds_96 : decode cL_holds 96 = .ok (.istore 11, 2) := by decide +kernel
theorem dL_holds_98 : decode cL_holds 98 = .ok (.iload 11, 2) := by decide +kernel
theorem dL_holds_100 : decode cL_holds 100 = .ok (.aload_n 0, 1) := by decide +kernel
theorem dL_holds_101 : decode cL_holds 101 = .ok (.invokevirtual 188, 3) := by decide +kernel
theorem dL_holds_104 : decode cL_holds 104 = .ok (.if_icmp .ge 58, 3) := by decide +kernel
theorem dL_holds_107 : decode cL_holds 107 = .ok (.aload_n 0, 1) := by decide +kernel
theorem dL_holds_108 : decode cL_holds 108 = .ok (.bipush 15, 2) := by decide +kernel
theorem dL_holds_110 : decode cL_holds 110 = .ok (.iload 11, 2) := by decide +kernel
theorem dL_holds_112 : decode cL_holds 112 = .ok (.iconst 0, 1) := by decide +kernel
theorem dL_holds_113 : decode cL_holds 113 = .ok (.iconst 0, 1) := by decide +kernel
theorem dL_holds_114 : decode cL_holds 114 = .ok (.invokestatic 176, 3) := by decide +kernel
theorem dL_holds_117 : decode cL_holds 117 = .ok (.istore 12, 2) := by decide +kernel
theorem dL_holds_119 : decode cL_holds 119 = .ok (.iload 10, 2) := by decide +kernel
theorem dL_holds_121 : decode cL_holds 121 = .ok (.aload_n 0, 1) := by decide +kernel
theorem dL_holds_122 : decode cL_holds 122 = .ok (.bipush 14, 2) := by decide +kernel
theorem dL_holds_124 : decode cL_holds 124 = .ok (.iload 11, 2) := by decide +kernel
theorem dL_holds_126 : decode cL_holds 126 = .ok (.iconst 0, 1) := by decide +kernel
theorem dL_holds_127 : decode cL_holds 127 = .ok (.iconst 0, 1) := by decide +kernel
theorem dL_holds_128 : decode cL_holds 128 = .ok (.invokestatic 176, 3) := by decide +kernel
theorem dL_holds_131 : decode cL_holds 131 = .ok (.iload 6, 2) := by decide +kernel
theorem dL_holds_133 : decode cL_holds 133 = .ok (.if_icmp .eq 7, 3) := by decide +kernel
theorem dL_holds_136 : decode cL_holds 136 = .ok (.iconst 0, 1) := by decide +kernel
theorem dL_holds_137 : decode cL_holds 137 = .ok (.goto 16, 3) := by decide +kernel
theorem dL_holds_140 : decode cL_holds 140 = .ok (.iload 12, 2) := by decide +kernel
theorem dL_holds_142 : decode cL_holds 142 = .ok (.ifCond .ge 9, 3) := by decide +kernel
theorem dL_holds_145 : decode cL_holds 145 = .ok (.iload 12, 2) := by decide +kernel
theorem dL_holds_147 : decode cL_holds 147 = .ok (.ineg, 1) := by decide +kernel
theorem dL_holds_148 : decode cL_holds 148 = .ok (.goto 5, 3) := by decide +kernel
theorem dL_holds_151 : decode cL_holds 151 = .ok (.iload 12, 2) := by decide +kernel
theorem dL_holds_153 : decode cL_holds 153 = .ok (.iadd, 1) := by decide +kernel
theorem dL_holds_154 : decode cL_holds 154 = .ok (.istore 10, 2) := by decide +kernel
theorem dL_holds_156 : decode cL_holds 156 = .ok (.iinc 11 1, 3) := by decide +kernel
theorem dL_holds_159 : decode cL_holds 159 = .ok (.goto (-61), 3) := by decide +kernel
theorem dL_holds_162 : decode cL_holds 162 = .ok (.iconst 0, 1) := by decide +kernel
theorem dL_holds_163 : decode cL_holds 163 = .ok (.istore 11, 2) := by decide +kernel
theorem dL_holds_165 : decode cL_holds 165 = .ok (.iload 11, 2) := by decide +kernel
theorem dL_holds_167 : decode cL_holds 167 = .ok (.iload 9, 2) := by decide +kernel
theorem dL_holds_169 : decode cL_holds 169 = .ok (.if_icmp .ge 65, 3) := by decide +kernel
theorem dL_holds_172 : decode cL_holds 172 = .ok (.iload 5, 2) := by decide +kernel
theorem dL_holds_174 : decode cL_holds 174 = .ok (.ifCond .eq 60, 3) := by decide +kernel
theorem dL_holds_177 : decode cL_holds 177 = .ok (.aload_n 0, 1) := by decide +kernel
theorem dL_holds_178 : decode cL_holds 178 = .ok (.bipush 13, 2) := by decide +kernel
theorem dL_holds_180 : decode cL_holds 180 = .ok (.iload 7, 2) := by decide +kernel
theorem dL_holds_182 : decode cL_holds 182 = .ok (.iconst 5, 1) := by decide +kernel
theorem dL_holds_183 : decode cL_holds 183 = .ok (.if_icmp .ge 16, 3) := by decide +kernel
theorem dL_holds_186 : decode cL_holds 186 = .ok (.iconst 5, 1) := by decide +kernel
theorem dL_holds_187 : decode cL_holds 187 = .ok (.iload 7, 2) := by decide +kernel
theorem dL_holds_189 : decode cL_holds 189 = .ok (.imul, 1) := by decide +kernel
theorem dL_holds_190 : decode cL_holds 190 = .ok (.iload 8, 2) := by decide +kernel
theorem dL_holds_192 : decode cL_holds 192 = .ok (.iadd, 1) := by decide +kernel
theorem dL_holds_193 : decode cL_holds 193 = .ok (.iload 11, 2) := by decide +kernel
theorem dL_holds_195 : decode cL_holds 195 = .ok (.iadd, 1) := by decide +kernel
theorem dL_holds_196 : decode cL_holds 196 = .ok (.goto 15, 3) := by decide +kernel
theorem dL_holds_199 : decode cL_holds 199 = .ok (.iconst 5, 1) := by decide +kernel
theorem dL_holds_200 : decode cL_holds 200 = .ok (.iload 8, 2) := by decide +kernel
theorem dL_holds_202 : decode cL_holds 202 = .ok (.iload 11, 2) := by decide +kernel
theorem dL_holds_204 : decode cL_holds 204 = .ok (.iadd, 1) := by decide +kernel
theorem dL_holds_205 : decode cL_holds 205 = .ok (.imul, 1) := by decide +kernel
theorem dL_holds_206 : decode cL_holds 206 = .ok (.iload 7, 2) := by decide +kernel
theorem dL_holds_208 : decode cL_holds 208 = .ok (.iadd, 1) := by decide +kernel
theorem dL_holds_209 : decode cL_holds 209 = .ok (.iconst 5, 1) := by decide +kernel
theorem dL_holds_210 : decode cL_holds 210 = .ok (.isub, 1) := by decide +kernel
theorem dL_holds_211 : decode cL_holds 211 = .ok (.iconst 0, 1) := by decide +kernel
theorem dL_holds_212 : decode cL_holds 212 = .ok (.iconst 0, 1) := by decide +kernel
theorem dL_holds_213 : decode cL_holds 213 = .ok (.invokestatic 176, 3) := by decide +kernel
theorem dL_holds_216 : decode cL_holds 216 = .ok (.iload 6, 2) := by decide +kernel
theorem dL_holds_218 : decode cL_holds 218 = .ok (.if_icmp .ne 7, 3) := by decide +kernel
theorem dL_holds_221 : decode cL_holds 221 = .ok (.iconst 1, 1) := by decide +kernel
theorem dL_holds_222 : decode cL_holds 222 = .ok (.goto 4, 3) := by decide +kernel
theorem dL_holds_225 : decode cL_holds 225 = .ok (.iconst 0, 1) := by decide +kernel
theorem dL_holds_226 : decode cL_holds 226 = .ok (.istore 5, 2) := by decide +kernel
theorem dL_holds_228 : decode cL_holds 228 = .ok (.iinc 11 1, 3) := by decide +kernel
theorem dL_holds_231 : decode cL_holds 231 = .ok (.goto (-66), 3) := by decide +kernel
theorem dL_holds_234 : decode cL_holds 234 = .ok (.iload_n 2, 1) := by decide +kernel
theorem dL_holds_235 : decode cL_holds 235 = .ok (.iload 9, 2) := by decide +kernel
theorem dL_holds_237 : decode cL_holds 237 = .ok (.iadd, 1) := by decide +kernel
theorem dL_holds_238 : decode cL_holds 238 = .ok (.istore_n 2, 1) := by decide +kernel
theorem dL_holds_239 : decode cL_holds 239 = .ok (.iload 4, 2) := by decide +kernel
theorem dL_holds_241 : decode cL_holds 241 = .ok (.iload 10, 2) := by decide +kernel
theorem dL_holds_243 : decode cL_holds 243 = .ok (.iload 9, 2) := by decide +kernel
theorem dL_holds_245 : decode cL_holds 245 = .ok (.imul, 1) := by decide +kernel
theorem dL_holds_246 : decode cL_holds 246 = .ok (.iadd, 1) := by decide +kernel
theorem dL_holds_247 : decode cL_holds 247 = .ok (.istore 4, 2) := by decide +kernel
theorem dL_holds_249 : decode cL_holds 249 = .ok (.iload_n 3, 1) := by decide +kernel
theorem dL_holds_250 : decode cL_holds 250 = .ok (.aload_n 0, 1) := by decide +kernel
theorem dL_holds_251 : decode cL_holds 251 = .ok (.iload 6, 2) := by decide +kernel
theorem dL_holds_253 : decode cL_holds 253 = .ok (.iconst 1, 1) := by decide +kernel
theorem dL_holds_254 : decode cL_holds 254 = .ok (.invokestatic 185, 3) := by decide +kernel
theorem dL_holds_257 : decode cL_holds 257 = .ok (.aload_n 0, 1) := by decide +kernel
theorem dL_holds_258 : decode cL_holds 258 = .ok (.iload 6, 2) := by decide +kernel
theorem dL_holds_260 : decode cL_holds 260 = .ok (.iconst 0, 1) := by decide +kernel
theorem dL_holds_261 : decode cL_holds 261 = .ok (.invokestatic 185, 3) := by decide +kernel
theorem dL_holds_264 : decode cL_holds 264 = .ok (.iadd, 1) := by decide +kernel
theorem dL_holds_265 : decode cL_holds 265 = .ok (.iadd, 1) := by decide +kernel
theorem dL_holds_266 : decode cL_holds 266 = .ok (.istore_n 3, 1) := by decide +kernel
theorem dL_holds_267 : decode cL_holds 267 = .ok (.iload 5, 2) := by decide +kernel
theorem dL_holds_269 : decode cL_holds 269 = .ok (.ifCond .eq 76, 3) := by decide +kernel
theorem dL_holds_272 : decode cL_holds 272 = .ok (.iload 8, 2) := by decide +kernel
theorem dL_holds_274 : decode cL_holds 274 = .ok (.ifCond .lt 71, 3) := by decide +kernel
theorem dL_holds_277 : decode cL_holds 277 = .ok (.iload 8, 2) := by decide +kernel
theorem dL_holds_279 : decode cL_holds 279 = .ok (.iload 9, 2) := by decide +kernel
theorem dL_holds_281 : decode cL_holds 281 = .ok (.iadd, 1) := by decide +kernel
theorem dL_holds_282 : decode cL_holds 282 = .ok (.iconst 5, 1) := by decide +kernel
theorem dL_holds_283 : decode cL_holds 283 = .ok (.if_icmp .gt 62, 3) := by decide +kernel
theorem dL_holds_286 : decode cL_holds 286 = .ok (.iload 6, 2) := by decide +kernel
theorem dL_holds_288 : decode cL_holds 288 = .ok (.ifCond .gt 9, 3) := by decide +kernel
theorem dL_holds_291 : decode cL_holds 291 = .ok (.iload 7, 2) := by decide +kernel
theorem dL_holds_293 : decode cL_holds 293 = .ok (.iconst 5, 1) := by decide +kernel
theorem dL_holds_294 : decode cL_holds 294 = .ok (.if_icmp .ge 51, 3) := by decide +kernel
theorem dL_holds_297 : decode cL_holds 297 = .ok (.iload 10, 2) := by decide +kernel
theorem dL_holds_299 : decode cL_holds 299 = .ok (.aload_n 0, 1) := by decide +kernel
theorem dL_holds_300 : decode cL_holds 300 = .ok (.bipush 16, 2) := by decide +kernel
theorem dL_holds_302 : decode cL_holds 302 = .ok (.iload 6, 2) := by decide +kernel
theorem dL_holds_304 : decode cL_holds 304 = .ok (.iconst 0, 1) := by decide +kernel
theorem dL_holds_305 : decode cL_holds 305 = .ok (.iconst 0, 1) := by decide +kernel
theorem dL_holds_306 : decode cL_holds 306 = .ok (.invokestatic 176, 3) := by decide +kernel
theorem dL_holds_309 : decode cL_holds 309 = .ok (.if_icmp .ne 36, 3) := by decide +kernel
theorem dL_holds_312 : decode cL_holds 312 = .ok (.aload_n 0, 1) := by decide +kernel
theorem dL_holds_313 : decode cL_holds 313 = .ok (.iload 6, 2) := by decide +kernel
theorem dL_holds_315 : decode cL_holds 315 = .ok (.iconst 1, 1) := by decide +kernel
theorem dL_holds_316 : decode cL_holds 316 = .ok (.invokestatic 185, 3) := by decide +kernel
theorem dL_holds_319 : decode cL_holds 319 = .ok (.iconst 5, 1) := by decide +kernel
theorem dL_holds_320 : decode cL_holds 320 = .ok (.iload 9, 2) := by decide +kernel
theorem dL_holds_322 : decode cL_holds 322 = .ok (.isub, 1) := by decide +kernel
theorem dL_holds_323 : decode cL_holds 323 = .ok (.iload 8, 2) := by decide +kernel
theorem dL_holds_325 : decode cL_holds 325 = .ok (.isub, 1) := by decide +kernel
theorem dL_holds_326 : decode cL_holds 326 = .ok (.if_icmp .gt 19, 3) := by decide +kernel
theorem dL_holds_329 : decode cL_holds 329 = .ok (.aload_n 0, 1) := by decide +kernel
theorem dL_holds_330 : decode cL_holds 330 = .ok (.iload 6, 2) := by decide +kernel
theorem dL_holds_332 : decode cL_holds 332 = .ok (.iconst 0, 1) := by decide +kernel
theorem dL_holds_333 : decode cL_holds 333 = .ok (.invokestatic 185, 3) := by decide +kernel
theorem dL_holds_336 : decode cL_holds 336 = .ok (.iload 8, 2) := by decide +kernel
theorem dL_holds_338 : decode cL_holds 338 = .ok (.if_icmp .gt 7, 3) := by decide +kernel
theorem dL_holds_341 : decode cL_holds 341 = .ok (.iconst 1, 1) := by decide +kernel
theorem dL_holds_342 : decode cL_holds 342 = .ok (.goto 4, 3) := by decide +kernel
theorem dL_holds_345 : decode cL_holds 345 = .ok (.iconst 0, 1) := by decide +kernel
theorem dL_holds_346 : decode cL_holds 346 = .ok (.istore 5, 2) := by decide +kernel
theorem dL_holds_348 : decode cL_holds 348 = .ok (.iinc 6 1, 3) := by decide +kernel
theorem dL_holds_351 : decode cL_holds 351 = .ok (.goto (-306), 3) := by decide +kernel
theorem dL_holds_354 : decode cL_holds 354 = .ok (.iload 5, 2) := by decide +kernel
theorem dL_holds_356 : decode cL_holds 356 = .ok (.ifCond .eq 49, 3) := by decide +kernel
theorem dL_holds_359 : decode cL_holds 359 = .ok (.aload_n 0, 1) := by decide +kernel
theorem dL_holds_360 : decode cL_holds 360 = .ok (.invokevirtual 198, 3) := by decide +kernel
theorem dL_holds_363 : decode cL_holds 363 = .ok (.bipush 25, 2) := by decide +kernel
theorem dL_holds_365 : decode cL_holds 365 = .ok (.iload_n 2, 1) := by decide +kernel
theorem dL_holds_366 : decode cL_holds 366 = .ok (.isub, 1) := by decide +kernel
theorem dL_holds_367 : decode cL_holds 367 = .ok (.aload_n 0, 1) := by decide +kernel
theorem dL_holds_368 : decode cL_holds 368 = .ok (.invokevirtual 191, 3) := by decide +kernel
theorem dL_holds_371 : decode cL_holds 371 = .ok (.isub, 1) := by decide +kernel
theorem dL_holds_372 : decode cL_holds 372 = .ok (.if_icmp .ne 33, 3) := by decide +kernel
theorem dL_holds_375 : decode cL_holds 375 = .ok (.aload_n 0, 1) := by decide +kernel
theorem dL_holds_376 : decode cL_holds 376 = .ok (.invokevirtual 201, 3) := by decide +kernel
theorem dL_holds_379 : decode cL_holds 379 = .ok (.iload_n 3, 1) := by decide +kernel
theorem dL_holds_380 : decode cL_holds 380 = .ok (.if_icmp .ne 25, 3) := by decide +kernel
theorem dL_holds_383 : decode cL_holds 383 = .ok (.aload_n 0, 1) := by decide +kernel
theorem dL_holds_384 : decode cL_holds 384 = .ok (.invokevirtual 204, 3) := by decide +kernel
theorem dL_holds_387 : decode cL_holds 387 = .ok (.iload 4, 2) := by decide +kernel
theorem dL_holds_389 : decode cL_holds 389 = .ok (.if_icmp .ne 16, 3) := by decide +kernel
theorem dL_holds_392 : decode cL_holds 392 = .ok (.aload_n 0, 1) := by decide +kernel
theorem dL_holds_393 : decode cL_holds 393 = .ok (.invokevirtual 207, 3) := by decide +kernel
theorem dL_holds_396 : decode cL_holds 396 = .ok (.iload 4, 2) := by decide +kernel
theorem dL_holds_398 : decode cL_holds 398 = .ok (.if_icmp .ne 7, 3) := by decide +kernel
theorem dL_holds_401 : decode cL_holds 401 = .ok (.iconst 1, 1) := by decide +kernel
theorem dL_holds_402 : decode cL_holds 402 = .ok (.goto 4, 3) := by decide +kernel
theorem dL_holds_405 : decode cL_holds 405 = .ok (.iconst 0, 1) := by decide +kernel
theorem dL_holds_406 : decode cL_holds 406 = .ok (.ireturn, 1) := by decide +kernel
theorem dL_plans_0 : decode cL_plans 0 = .ok (.aload_n 0, 1) := by decide +kernel
theorem dL_plans_1 : decode cL_plans 1 = .ok (.invokevirtual 210, 3) := by decide +kernel
theorem dL_plans_4 : decode cL_plans 4 = .ok (.istore_n 1, 1) := by decide +kernel
theorem dL_plans_5 : decode cL_plans 5 = .ok (.aload_n 0, 1) := by decide +kernel
theorem dL_plans_6 : decode cL_plans 6 = .ok (.invokevirtual 213, 3) := by decide +kernel
theorem dL_plans_9 : decode cL_plans 9 = .ok (.istore_n 2, 1) := by decide +kernel
theorem dL_plans_10 : decode cL_plans 10 = .ok (.aload_n 0, 1) := by decide +kernel
theorem dL_plans_11 : decode cL_plans 11 = .ok (.invokevirtual 216, 3) := by decide +kernel
theorem dL_plans_14 : decode cL_plans 14 = .ok (.istore_n 3, 1) := by decide +kernel
theorem dL_plans_15 : decode cL_plans 15 = .ok (.aload_n 0, 1) := by decide +kernel
theorem dL_plans_16 : decode cL_plans 16 = .ok (.invokevirtual 219, 3) := by decide +kernel
theorem dL_plans_19 : decode cL_plans 19 = .ok (.istore 4, 2) := by decide +kernel
theorem dL_plans_21 : decode cL_plans 21 = .ok (.iload_n 1, 1) := by decide +kernel
theorem dL_plans_22 : decode cL_plans 22 = .ok (.aload_n 0, 1) := by decide +kernel
theorem dL_plans_23 : decode cL_plans 23 = .ok (.invokevirtual 222, 3) := by decide +kernel
theorem dL_plans_26 : decode cL_plans 26 = .ok (.if_icmp .ne 114, 3) := by decide +kernel
theorem dL_plans_29 : decode cL_plans 29 = .ok (.iload_n 3, 1) := by decide +kernel
theorem dL_plans_30 : decode cL_plans 30 = .ok (.aload_n 0, 1) := by decide +kernel
theorem dL_plans_31 : decode cL_plans 31 = .ok (.invokevirtual 225, 3) := by decide +kernel
theorem dL_plans_34 : decode cL_plans 34 = .ok (.if_icmp .ne 106, 3) := by decide +kernel
theorem dL_plans_37 : decode cL_plans 37 = .ok (.iload_n 1, 1) := by decide +kernel
theorem dL_plans_38 : decode cL_plans 38 = .ok (.ifCond .ge 7, 3) := by decide +kernel
theorem dL_plans_41 : decode cL_plans 41 = .ok (.iconst 1, 1) := by decide +kernel
theorem dL_plans_42 : decode cL_plans 42 = .ok (.goto 4, 3) := by decide +kernel
theorem dL_plans_45 : decode cL_plans 45 = .ok (.iconst 0, 1) := by decide +kernel
theorem dL_plans_46 : decode cL_plans 46 = .ok (.iload_n 2, 1) := by decide +kernel
theorem dL_plans_47 : decode cL_plans 47 = .ok (.ifCond .ge 7, 3) := by decide +kernel
theorem dL_plans_50 : decode cL_plans 50 = .ok (.iconst 1, 1) := by decide +kernel
theorem dL_plans_51 : decode cL_plans 51 = .ok (.goto 4, 3) := by decide +kernel
theorem dL_plans_54 : decode cL_plans 54 = .ok (.iconst 0, 1) := by decide +kernel
theorem dL_plans_55 : decode cL_plans 55 = .ok (.if_icmp .ne 85, 3) := by decide +kernel
theorem dL_plans_58 : decode cL_plans 58 = .ok (.iload_n 1, 1) := by decide +kernel
theorem dL_plans_59 : decode cL_plans 59 = .ok (.ifCond .ge 7, 3) := by decide +kernel
theorem dL_plans_62 : decode cL_plans 62 = .ok (.iconst 1, 1) := by decide +kernel
theorem dL_plans_63 : decode cL_plans 63 = .ok (.goto 4, 3) := by decide +kernel
theorem dL_plans_66 : decode cL_plans 66 = .ok (.iconst 0, 1) := by decide +kernel
theorem dL_plans_67 : decode cL_plans 67 = .ok (.iload_n 3, 1) := by decide +kernel
theorem dL_plans_68 : decode cL_plans 68 = .ok (.ifCond .ge 7, 3) := by decide +kernel
theorem dL_plans_71 : decode cL_plans 71 = .ok (.iconst 1, 1) := by decide +kernel
theorem dL_plans_72 : decode cL_plans 72 = .ok (.goto 4, 3) := by decide +kernel
theorem dL_plans_75 : decode cL_plans 75 = .ok (.iconst 0, 1) := by decide +kernel
theorem dL_plans_76 : decode cL_plans 76 = .ok (.if_icmp .ne 64, 3) := by decide +kernel
theorem dL_plans_79 : decode cL_plans 79 = .ok (.aload_n 0, 1) := by decide +kernel
theorem dL_plans_80 : decode cL_plans 80 = .ok (.invokevirtual 228, 3) := by decide +kernel
theorem dL_plans_83 : decode cL_plans 83 = .ok (.ifCond .ne 7, 3) := by decide +kernel
theorem dL_plans_86 : decode cL_plans 86 = .ok (.iconst 1, 1) := by decide +kernel
theorem dL_plans_87 : decode cL_plans 87 = .ok (.goto 4, 3) := by decide +kernel
theorem dL_plans_90 : decode cL_plans 90 = .ok (.iconst 0, 1) := by decide +kernel
theorem dL_plans_91 : decode cL_plans 91 = .ok (.iload_n 1, 1) := by decide +kernel
theorem dL_plans_92 : decode cL_plans 92 = .ok (.ifCond .ge 7, 3) := by decide +kernel
theorem dL_plans_95 : decode cL_plans 95 = .ok (.iconst 1, 1) := by decide +kernel
theorem dL_plans_96 : decode cL_plans 96 = .ok (.goto 4, 3) := by decide +kernel
theorem dL_plans_99 : decode cL_plans 99 = .ok (.iconst 0, 1) := by decide +kernel
theorem dL_plans_100 : decode cL_plans 100 = .ok (.if_icmp .ne 40, 3) := by decide +kernel
theorem dL_plans_103 : decode cL_plans 103 = .ok (.iload 4, 2) := by decide +kernel
theorem dL_plans_105 : decode cL_plans 105 = .ok (.iconst 1, 1) := by decide +kernel
theorem dL_plans_106 : decode cL_plans 106 = .ok (.if_icmp .lt 34, 3) := by decide +kernel
theorem dL_plans_109 : decode cL_plans 109 = .ok (.iload 4, 2) := by decide +kernel
theorem dL_plans_111 : decode cL_plans 111 = .ok (.aload_n 0, 1) := by decide +kernel
theorem dL_plans_112 : decode cL_plans 112 = .ok (.invokevirtual 231, 3) := by decide +kernel
theorem dL_plans_115 : decode cL_plans 115 = .ok (.if_icmp .gt 25, 3) := by decide +kernel
theorem dL_plans_118 : decode cL_plans 118 = .ok (.aload_n 0, 1) := by decide +kernel
theorem dL_plans_119 : decode cL_plans 119 = .ok (.invokevirtual 234, 3) := by decide +kernel
theorem dL_plans_122 : decode cL_plans 122 = .ok (.iload 4, 2) := by decide +kernel
theorem dL_plans_124 : decode cL_plans 124 = .ok (.if_icmp .ge 16, 3) := by decide +kernel
theorem dL_plans_127 : decode cL_plans 127 = .ok (.aload_n 0, 1) := by decide +kernel
theorem dL_plans_128 : decode cL_plans 128 = .ok (.invokevirtual 201, 3) := by decide +kernel
theorem dL_plans_131 : decode cL_plans 131 = .ok (.iload 4, 2) := by decide +kernel
theorem dL_plans_133 : decode cL_plans 133 = .ok (.if_icmp .ge 7, 3) := by decide +kernel
theorem dL_plans_136 : decode cL_plans 136 = .ok (.iconst 1, 1) := by decide +kernel
theorem dL_plans_137 : decode cL_plans 137 = .ok (.goto 4, 3) := by decide +kernel
theorem dL_plans_140 : decode cL_plans 140 = .ok (.iconst 0, 1) := by decide +kernel
theorem dL_plans_141 : decode cL_plans 141 = .ok (.istore 5, 2) := by decide +kernel
theorem dL_plans_143 : decode cL_plans 143 = .ok (.iload 5, 2) := by decide +kernel
theorem dL_plans_145 : decode cL_plans 145 = .ok (.ifCond .eq 61, 3) := by decide +kernel
theorem dL_plans_148 : decode cL_plans 148 = .ok (.iload_n 1, 1) := by decide +kernel
theorem dL_plans_149 : decode cL_plans 149 = .ok (.ifCond .lt 53, 3) := by decide +kernel
theorem dL_plans_152 : decode cL_plans 152 = .ok (.iload_n 2, 1) := by decide +kernel
theorem dL_plans_153 : decode cL_plans 153 = .ok (.iload_n 1, 1) := by decide +kernel
theorem dL_plans_154 : decode cL_plans 154 = .ok (.if_icmp .lt 52, 3) := by decide +kernel
theorem dL_plans_157 : decode cL_plans 157 = .ok (.iload_n 2, 1) := by decide +kernel
theorem dL_plans_158 : decode cL_plans 158 = .ok (.iconst 3, 1) := by decide +kernel
theorem dL_plans_159 : decode cL_plans 159 = .ok (.iload_n 1, 1) := by decide +kernel
theorem dL_plans_160 : decode cL_plans 160 = .ok (.imul, 1) := by decide +kernel
theorem dL_plans_161 : decode cL_plans 161 = .ok (.if_icmp .gt 45, 3) := by decide +kernel
theorem dL_plans_164 : decode cL_plans 164 = .ok (.iload_n 3, 1) := by decide +kernel
theorem dL_plans_165 : decode cL_plans 165 = .ok (.iconst 2, 1) := by decide +kernel
theorem dL_plans_166 : decode cL_plans 166 = .ok (.iload_n 2, 1) := by decide +kernel
theorem dL_plans_167 : decode cL_plans 167 = .ok (.imul, 1) := by decide +kernel
theorem dL_plans_168 : decode cL_plans 168 = .ok (.if_icmp .lt 38, 3) := by decide +kernel
theorem dL_plans_171 : decode cL_plans 171 = .ok (.iload_n 3, 1) := by decide +kernel
theorem dL_plans_172 : decode cL_plans 172 = .ok (.iconst 3, 1) := by decide +kernel
theorem dL_plans_173 : decode cL_plans 173 = .ok (.iload_n 2, 1) := by decide +kernel
theorem dL_plans_174 : decode cL_plans 174 = .ok (.imul, 1) := by decide +kernel
theorem dL_plans_175 : decode cL_plans 175 = .ok (.if_icmp .gt 31, 3) := by decide +kernel
theorem dL_plans_178 : decode cL_plans 178 = .ok (.aload_n 0, 1) := by decide +kernel
theorem dL_plans_179 : decode cL_plans 179 = .ok (.invokevirtual 234, 3) := by decide +kernel
theorem dL_plans_182 : decode cL_plans 182 = .ok (.iload_n 1, 1) := by decide +kernel
theorem dL_plans_183 : decode cL_plans 183 = .ok (.if_icmp .lt 23, 3) := by decide +kernel
theorem dL_plans_186 : decode cL_plans 186 = .ok (.iload_n 1, 1) := by decide +kernel
theorem dL_plans_187 : decode cL_plans 187 = .ok (.ifCond .ne 7, 3) := by decide +kernel
theorem dL_plans_190 : decode cL_plans 190 = .ok (.iconst 1, 1) := by decide +kernel
theorem dL_plans_191 : decode cL_plans 191 = .ok (.goto 4, 3) := by decide +kernel
theorem dL_plans_194 : decode cL_plans 194 = .ok (.iconst 0, 1) := by decide +kernel
theorem dL_plans_195 : decode cL_plans 195 = .ok (.aload_n 0, 1) := by decide +kernel
theorem dL_plans_196 : decode cL_plans 196 = .ok (.invokevirtual 194, 3) := by decide +kernel
theorem dL_plans_199 : decode cL_plans 199 = .ok (.if_icmp .ne 7, 3) := by decide +kernel
theorem dL_plans_202 : decode cL_plans 202 = .ok (.iconst 1, 1) := by decide +kernel
theorem dL_plans_203 : decode cL_plans 203 = .ok (.goto 4, 3) := by decide +kernel
theorem dL_plans_206 : decode cL_plans 206 = .ok (.iconst 0, 1) := by decide +kernel
theorem dL_plans_207 : decode cL_plans 207 = .ok (.ireturn, 1) := by decide +kernel
theorem dL_act_0 : decode cL_act 0 = .ok (.iload_n 1, 1) := by decide +kernel
theorem dL_act_1 : decode cL_act 1 = .ok (.bipush 16, 2) := by decide +kernel
theorem dL_act_3 : decode cL_act 3 = .ok (.idiv, 1) := by decide +kernel
theorem dL_act_4 : decode cL_act 4 = .ok (.istore_n 2, 1) := by decide +kernel
theorem dL_act_5 : decode cL_act 5 = .ok (.iload_n 1, 1) := by decide +kernel
theorem dL_act_6 : decode cL_act 6 = .ok (.bipush 16, 2) := by decide +kernel
theorem dL_act_8 : decode cL_act 8 = .ok (.irem, 1) := by decide +kernel
theorem dL_act_9 : decode cL_act 9 = .ok (.tableswitch 161 0 6 #[43, 43, 43, 80, 106, 128, 138], 43) := by decide +kernel
theorem dL_act_52 : decode cL_act 52 = .ok (.aload_n 0, 1) := by decide +kernel
theorem dL_act_53 : decode cL_act 53 = .ok (.iconst 0, 1) := by decide +kernel
theorem dL_act_54 : decode cL_act 54 = .ok (.aload_n 0, 1) := by decide +kernel
theorem dL_act_55 : decode cL_act 55 = .ok (.invokevirtual 173, 3) := by decide +kernel
theorem dL_act_58 : decode cL_act 58 = .ok (.ifCond .ne 9, 3) := by decide +kernel
theorem dL_act_61 : decode cL_act 61 = .ok (.iload_n 2, 1) := by decide +kernel
theorem dL_act_62 : decode cL_act 62 = .ok (.iconst 5, 1) := by decide +kernel
theorem dL_act_63 : decode cL_act 63 = .ok (.irem, 1) := by decide +kernel
theorem dL_act_64 : decode cL_act 64 = .ok (.goto 7, 3) := by decide +kernel
theorem dL_act_67 : decode cL_act 67 = .ok (.iload_n 2, 1) := by decide +kernel
theorem dL_act_68 : decode cL_act 68 = .ok (.bipush 10, 2) := by decide +kernel
theorem dL_act_70 : decode cL_act 70 = .ok (.irem, 1) := by decide +kernel
theorem dL_act_71 : decode cL_act 71 = .ok (.iload_n 2, 1) := by decide +kernel
theorem dL_act_72 : decode cL_act 72 = .ok (.bipush 20, 2) := by decide +kernel
theorem dL_act_74 : decode cL_act 74 = .ok (.idiv, 1) := by decide +kernel
theorem dL_act_75 : decode cL_act 75 = .ok (.iconst 4, 1) := by decide +kernel
theorem dL_act_76 : decode cL_act 76 = .ok (.irem, 1) := by decide +kernel
theorem dL_act_77 : decode cL_act 77 = .ok (.iconst 2, 1) := by decide +kernel
theorem dL_act_78 : decode cL_act 78 = .ok (.iload_n 2, 1) := by decide +kernel
theorem dL_act_79 : decode cL_act 79 = .ok (.bipush 10, 2) := by decide +kernel
theorem dL_act_81 : decode cL_act 81 = .ok (.idiv, 1) := by decide +kernel
theorem dL_act_82 : decode cL_act 82 = .ok (.iconst 2, 1) := by decide +kernel
theorem dL_act_83 : decode cL_act 83 = .ok (.irem, 1) := by decide +kernel
theorem dL_act_84 : decode cL_act 84 = .ok (.iadd, 1) := by decide +kernel
theorem dL_act_85 : decode cL_act 85 = .ok (.invokestatic 176, 3) := by decide +kernel
theorem dL_act_88 : decode cL_act 88 = .ok (.ireturn, 1) := by decide +kernel
theorem dL_act_89 : decode cL_act 89 = .ok (.iload_n 2, 1) := by decide +kernel
theorem dL_act_90 : decode cL_act 90 = .ok (.iconst 3, 1) := by decide +kernel
theorem dL_act_91 : decode cL_act 91 = .ok (.irem, 1) := by decide +kernel
theorem dL_act_92 : decode cL_act 92 = .ok (.ifCond .ne 14, 3) := by decide +kernel
theorem dL_act_95 : decode cL_act 95 = .ok (.aload_n 0, 1) := by decide +kernel
theorem dL_act_96 : decode cL_act 96 = .ok (.iconst 1, 1) := by decide +kernel
theorem dL_act_97 : decode cL_act 97 = .ok (.iconst 0, 1) := by decide +kernel
theorem dL_act_98 : decode cL_act 98 = .ok (.iconst 0, 1) := by decide +kernel
theorem dL_act_99 : decode cL_act 99 = .ok (.iconst 0, 1) := by decide +kernel
theorem dL_act_100 : decode cL_act 100 = .ok (.invokestatic 176, 3) := by decide +kernel
theorem dL_act_103 : decode cL_act 103 = .ok (.goto 11, 3) := by decide +kernel
theorem dL_act_106 : decode cL_act 106 = .ok (.aload_n 0, 1) := by decide +kernel
theorem dL_act_107 : decode cL_act 107 = .ok (.iload_n 2, 1) := by decide +kernel
theorem dL_act_108 : decode cL_act 108 = .ok (.bipush 25, 2) := by decide +kernel
theorem dL_act_110 : decode cL_act 110 = .ok (.irem, 1) := by decide +kernel
theorem dL_act_111 : decode cL_act 111 = .ok (.invokestatic 180, 3) := by decide +kernel
theorem dL_act_114 : decode cL_act 114 = .ok (.ireturn, 1) := by decide +kernel
theorem dL_act_115 : decode cL_act 115 = .ok (.iload_n 2, 1) := by decide +kernel
theorem dL_act_116 : decode cL_act 116 = .ok (.iconst 2, 1) := by decide +kernel
theorem dL_act_117 : decode cL_act 117 = .ok (.irem, 1) := by decide +kernel
theorem dL_act_118 : decode cL_act 118 = .ok (.ifCond .ne 14, 3) := by decide +kernel
theorem dL_act_121 : decode cL_act 121 = .ok (.aload_n 0, 1) := by decide +kernel
theorem dL_act_122 : decode cL_act 122 = .ok (.iconst 3, 1) := by decide +kernel
theorem dL_act_123 : decode cL_act 123 = .ok (.iconst 0, 1) := by decide +kernel
theorem dL_act_124 : decode cL_act 124 = .ok (.iconst 0, 1) := by decide +kernel
theorem dL_act_125 : decode cL_act 125 = .ok (.iconst 0, 1) := by decide +kernel
theorem dL_act_126 : decode cL_act 126 = .ok (.invokestatic 176, 3) := by decide +kernel
theorem dL_act_129 : decode cL_act 129 = .ok (.goto 7, 3) := by decide +kernel
theorem dL_act_132 : decode cL_act 132 = .ok (.aload_n 0, 1) := by decide +kernel
theorem dL_act_133 : decode cL_act 133 = .ok (.invokevirtual 237, 3) := by decide +kernel
theorem dL_act_136 : decode cL_act 136 = .ok (.ireturn, 1) := by decide +kernel
theorem dL_act_137 : decode cL_act 137 = .ok (.aload_n 0, 1) := by decide +kernel
theorem dL_act_138 : decode cL_act 138 = .ok (.bipush 8, 2) := by decide +kernel
theorem dL_act_140 : decode cL_act 140 = .ok (.iconst 0, 1) := by decide +kernel
theorem dL_act_141 : decode cL_act 141 = .ok (.iconst 0, 1) := by decide +kernel
theorem dL_act_142 : decode cL_act 142 = .ok (.iconst 0, 1) := by decide +kernel
theorem dL_act_143 : decode cL_act 143 = .ok (.invokestatic 176, 3) := by decide +kernel
theorem dL_act_146 : decode cL_act 146 = .ok (.ireturn, 1) := by decide +kernel
theorem dL_act_147 : decode cL_act 147 = .ok (.iload_n 2, 1) := by decide +kernel
theorem dL_act_148 : decode cL_act 148 = .ok (.iconst 2, 1) := by decide +kernel
theorem dL_act_149 : decode cL_act 149 = .ok (.irem, 1) := by decide +kernel
theorem dL_act_150 : decode cL_act 150 = .ok (.ifCond .ne 10, 3) := by decide +kernel
theorem dL_act_153 : decode cL_act 153 = .ok (.aload_n 0, 1) := by decide +kernel
theorem dL_act_154 : decode cL_act 154 = .ok (.invokevirtual 240, 3) := by decide +kernel
theorem dL_act_157 : decode cL_act 157 = .ok (.goto 12, 3) := by decide +kernel
theorem dL_act_160 : decode cL_act 160 = .ok (.aload_n 0, 1) := by decide +kernel
theorem dL_act_161 : decode cL_act 161 = .ok (.bipush 9, 2) := by decide +kernel
theorem dL_act_163 : decode cL_act 163 = .ok (.iconst 0, 1) := by decide +kernel
theorem dL_act_164 : decode cL_act 164 = .ok (.iconst 0, 1) := by decide +kernel
theorem dL_act_165 : decode cL_act 165 = .ok (.iconst 0, 1) := by decide +kernel
theorem dL_act_166 : decode cL_act 166 = .ok (.invokestatic 176, 3) := by decide +kernel
theorem dL_act_169 : decode cL_act 169 = .ok (.ireturn, 1) := by decide +kernel
theorem dL_act_170 : decode cL_act 170 = .ok (.aload_n 0, 1) := by decide +kernel
theorem dL_act_171 : decode cL_act 171 = .ok (.invokevirtual 173, 3) := by decide +kernel
theorem dL_act_174 : decode cL_act 174 = .ok (.ifCond .ne 7, 3) := by decide +kernel
theorem dL_act_177 : decode cL_act 177 = .ok (.iconst (-1), 1) := by decide +kernel
theorem dL_act_178 : decode cL_act 178 = .ok (.goto 43, 3) := by decide +kernel
theorem dL_act_181 : decode cL_act 181 = .ok (.aload_n 0, 1) := by decide +kernel
theorem dL_act_182 : decode cL_act 182 = .ok (.iconst 2, 1) := by decide +kernel
theorem dL_act_183 : decode cL_act 183 = .ok (.iload_n 2, 1) := by decide +kernel
theorem dL_act_184 : decode cL_act 184 = .ok (.aload_n 0, 1) := by decide +kernel
theorem dL_act_185 : decode cL_act 185 = .ok (.invokevirtual 173, 3) := by decide +kernel
theorem dL_act_188 : decode cL_act 188 = .ok (.irem, 1) := by decide +kernel
theorem dL_act_189 : decode cL_act 189 = .ok (.iload_n 2, 1) := by decide +kernel
theorem dL_act_190 : decode cL_act 190 = .ok (.bipush 8, 2) := by decide +kernel
theorem dL_act_192 : decode cL_act 192 = .ok (.idiv, 1) := by decide +kernel
theorem dL_act_193 : decode cL_act 193 = .ok (.iconst 2, 1) := by decide +kernel
theorem dL_act_194 : decode cL_act 194 = .ok (.irem, 1) := by decide +kernel
theorem dL_act_195 : decode cL_act 195 = .ok (.ifCond .ne 14, 3) := by decide +kernel
theorem dL_act_198 : decode cL_act 198 = .ok (.iconst 1, 1) := by decide +kernel
theorem dL_act_199 : decode cL_act 199 = .ok (.iload_n 2, 1) := by decide +kernel
theorem dL_act_200 : decode cL_act 200 = .ok (.bipush 16, 2) := by decide +kernel
theorem dL_act_202 : decode cL_act 202 = .ok (.idiv, 1) := by decide +kernel
theorem dL_act_203 : decode cL_act 203 = .ok (.iconst 3, 1) := by decide +kernel
theorem dL_act_204 : decode cL_act 204 = .ok (.irem, 1) := by decide +kernel
theorem dL_act_205 : decode cL_act 205 = .ok (.iadd, 1) := by decide +kernel
theorem dL_act_206 : decode cL_act 206 = .ok (.goto 11, 3) := by decide +kernel
theorem dL_act_209 : decode cL_act 209 = .ok (.iconst (-1), 1) := by decide +kernel
theorem dL_act_210 : decode cL_act 210 = .ok (.iload_n 2, 1) := by decide +kernel
theorem dL_act_211 : decode cL_act 211 = .ok (.bipush 16, 2) := by decide +kernel
theorem dL_act_213 : decode cL_act 213 = .ok (.idiv, 1) := by decide +kernel
theorem dL_act_214 : decode cL_act 214 = .ok (.iconst 3, 1) := by decide +kernel
theorem dL_act_215 : decode cL_act 215 = .ok (.irem, 1) := by decide +kernel
theorem dL_act_216 : decode cL_act 216 = .ok (.isub, 1) := by decide +kernel
theorem dL_act_217 : decode cL_act 217 = .ok (.iconst 0, 1) := by decide +kernel
theorem dL_act_218 : decode cL_act 218 = .ok (.invokestatic 176, 3) := by decide +kernel
theorem dL_act_221 : decode cL_act 221 = .ok (.ireturn, 1) := by decide +kernel
theorem dL_alike_0 : decode cL_alike 0 = .ok (.aload_n 0, 1) := by decide +kernel
theorem dL_alike_1 : decode cL_alike 1 = .ok (.invokevirtual 173, 3) := by decide +kernel
theorem dL_alike_4 : decode cL_alike 4 = .ok (.aload_n 1, 1) := by decide +kernel
theorem dL_alike_5 : decode cL_alike 5 = .ok (.invokevirtual 173, 3) := by decide +kernel
theorem dL_alike_8 : decode cL_alike 8 = .ok (.if_icmp .ne 51, 3) := by decide +kernel
theorem dL_alike_11 : decode cL_alike 11 = .ok (.aload_n 0, 1) := by decide +kernel
theorem dL_alike_12 : decode cL_alike 12 = .ok (.invokevirtual 191, 3) := by decide +kernel
theorem dL_alike_15 : decode cL_alike 15 = .ok (.aload_n 1, 1) := by decide +kernel
theorem dL_alike_16 : decode cL_alike 16 = .ok (.invokevirtual 191, 3) := by decide +kernel
theorem dL_alike_19 : decode cL_alike 19 = .ok (.if_icmp .ne 40, 3) := by decide +kernel
theorem dL_alike_22 : decode cL_alike 22 = .ok (.aload_n 0, 1) := by decide +kernel
theorem dL_alike_23 : decode cL_alike 23 = .ok (.invokevirtual 188, 3) := by decide +kernel
theorem dL_alike_26 : decode cL_alike 26 = .ok (.aload_n 1, 1) := by decide +kernel
theorem dL_alike_27 : decode cL_alike 27 = .ok (.invokevirtual 188, 3) := by decide +kernel
theorem dL_alike_30 : decode cL_alike 30 = .ok (.if_icmp .ne 29, 3) := by decide +kernel
theorem dL_alike_33 : decode cL_alike 33 = .ok (.aload_n 0, 1) := by decide +kernel
theorem dL_alike_34 : decode cL_alike 34 = .ok (.invokevirtual 243, 3) := by decide +kernel
theorem dL_alike_37 : decode cL_alike 37 = .ok (.aload_n 1, 1) := by decide +kernel
theorem dL_alike_38 : decode cL_alike 38 = .ok (.invokevirtual 243, 3) := by decide +kernel
theorem dL_alike_41 : decode cL_alike 41 = .ok (.if_icmp .ne 18, 3) := by decide +kernel
theorem dL_alike_44 : decode cL_alike 44 = .ok (.aload_n 0, 1) := by decide +kernel
theorem dL_alike_45 : decode cL_alike 45 = .ok (.invokevirtual 204, 3) := by decide +kernel
theorem dL_alike_48 : decode cL_alike 48 = .ok (.aload_n 1, 1) := by decide +kernel
theorem dL_alike_49 : decode cL_alike 49 = .ok (.invokevirtual 204, 3) := by decide +kernel
theorem dL_alike_52 : decode cL_alike 52 = .ok (.if_icmp .ne 7, 3) := by decide +kernel
theorem dL_alike_55 : decode cL_alike 55 = .ok (.iconst 1, 1) := by decide +kernel
theorem dL_alike_56 : decode cL_alike 56 = .ok (.goto 4, 3) := by decide +kernel
theorem dL_alike_59 : decode cL_alike 59 = .ok (.iconst 0, 1) := by decide +kernel
theorem dL_alike_60 : decode cL_alike 60 = .ok (.istore_n 2, 1) := by decide +kernel
theorem dL_alike_61 : decode cL_alike 61 = .ok (.iconst 0, 1) := by decide +kernel
theorem dL_alike_62 : decode cL_alike 62 = .ok (.istore_n 3, 1) := by decide +kernel
theorem dL_alike_63 : decode cL_alike 63 = .ok (.iload_n 3, 1) := by decide +kernel
theorem dL_alike_64 : decode cL_alike 64 = .ok (.bipush 25, 2) := by decide +kernel
theorem dL_alike_66 : decode cL_alike 66 = .ok (.if_icmp .ge 53, 3) := by decide +kernel
theorem dL_alike_69 : decode cL_alike 69 = .ok (.iload_n 2, 1) := by decide +kernel
theorem dL_alike_70 : decode cL_alike 70 = .ok (.ifCond .eq 49, 3) := by decide +kernel
theorem dL_alike_73 : decode cL_alike 73 = .ok (.aload_n 0, 1) := by decide +kernel
theorem dL_alike_74 : decode cL_alike 74 = .ok (.bipush 13, 2) := by decide +kernel
theorem dL_alike_76 : decode cL_alike 76 = .ok (.iload_n 3, 1) := by decide +kernel
theorem dL_alike_77 : decode cL_alike 77 = .ok (.iconst 0, 1) := by decide +kernel
theorem dL_alike_78 : decode cL_alike 78 = .ok (.iconst 0, 1) := by decide +kernel
theorem dL_alike_79 : decode cL_alike 79 = .ok (.invokestatic 176, 3) := by decide +kernel
theorem dL_alike_82 : decode cL_alike 82 = .ok (.aload_n 1, 1) := by decide +kernel
theorem dL_alike_83 : decode cL_alike 83 = .ok (.bipush 13, 2) := by decide +kernel
theorem dL_alike_85 : decode cL_alike 85 = .ok (.iload_n 3, 1) := by decide +kernel
theorem dL_alike_86 : decode cL_alike 86 = .ok (.iconst 0, 1) := by decide +kernel
theorem dL_alike_87 : decode cL_alike 87 = .ok (.iconst 0, 1) := by decide +kernel
theorem dL_alike_88 : decode cL_alike 88 = .ok (.invokestatic 176, 3) := by decide +kernel
theorem dL_alike_91 : decode cL_alike 91 = .ok (.if_icmp .ne 20, 3) := by decide +kernel
theorem dL_alike_94 : decode cL_alike 94 = .ok (.aload_n 0, 1) := by decide +kernel
theorem dL_alike_95 : decode cL_alike 95 = .ok (.iload_n 3, 1) := by decide +kernel
theorem dL_alike_96 : decode cL_alike 96 = .ok (.invokestatic 183, 3) := by decide +kernel
theorem dL_alike_99 : decode cL_alike 99 = .ok (.aload_n 1, 1) := by decide +kernel
theorem dL_alike_100 : decode cL_alike 100 = .ok (.iload_n 3, 1) := by decide +kernel
theorem dL_alike_101 : decode cL_alike 101 = .ok (.invokestatic 183, 3) := by decide +kernel
theorem dL_alike_104 : decode cL_alike 104 = .ok (.if_icmp .ne 7, 3) := by decide +kernel
theorem dL_alike_107 : decode cL_alike 107 = .ok (.iconst 1, 1) := by decide +kernel
theorem dL_alike_108 : decode cL_alike 108 = .ok (.goto 4, 3) := by decide +kernel
theorem dL_alike_111 : decode cL_alike 111 = .ok (.iconst 0, 1) := by decide +kernel
theorem dL_alike_112 : decode cL_alike 112 = .ok (.istore_n 2, 1) := by decide +kernel
theorem dL_alike_113 : decode cL_alike 113 = .ok (.iinc 3 1, 3) := by decide +kernel
theorem dL_alike_116 : decode cL_alike 116 = .ok (.goto (-53), 3) := by decide +kernel
theorem dL_alike_119 : decode cL_alike 119 = .ok (.iconst 0, 1) := by decide +kernel
theorem dL_alike_120 : decode cL_alike 120 = .ok (.istore_n 3, 1) := by decide +kernel
theorem dL_alike_121 : decode cL_alike 121 = .ok (.iload_n 3, 1) := by decide +kernel
theorem dL_alike_122 : decode cL_alike 122 = .ok (.bipush 6, 2) := by decide +kernel
theorem dL_alike_124 : decode cL_alike 124 = .ok (.if_icmp .ge 103, 3) := by decide +kernel
theorem dL_alike_127 : decode cL_alike 127 = .ok (.iload_n 2, 1) := by decide +kernel
theorem dL_alike_128 : decode cL_alike 128 = .ok (.ifCond .eq 99, 3) := by decide +kernel
theorem dL_alike_131 : decode cL_alike 131 = .ok (.aload_n 0, 1) := by decide +kernel
theorem dL_alike_132 : decode cL_alike 132 = .ok (.bipush 10, 2) := by decide +kernel
theorem dL_alike_134 : decode cL_alike 134 = .ok (.iload_n 3, 1) := by decide +kernel
theorem dL_alike_135 : decode cL_alike 135 = .ok (.iconst 0, 1) := by decide +kernel
theorem dL_alike_136 : decode cL_alike 136 = .ok (.iconst 0, 1) := by decide +kernel
theorem dL_alike_137 : decode cL_alike 137 = .ok (.invokestatic 176, 3) := by decide +kernel
theorem dL_alike_140 : decode cL_alike 140 = .ok (.aload_n 1, 1) := by decide +kernel
theorem dL_alike_141 : decode cL_alike 141 = .ok (.bipush 10, 2) := by decide +kernel
theorem dL_alike_143 : decode cL_alike 143 = .ok (.iload_n 3, 1) := by decide +kernel
theorem dL_alike_144 : decode cL_alike 144 = .ok (.iconst 0, 1) := by decide +kernel
theorem dL_alike_145 : decode cL_alike 145 = .ok (.iconst 0, 1) := by decide +kernel
theorem dL_alike_146 : decode cL_alike 146 = .ok (.invokestatic 176, 3) := by decide +kernel
theorem dL_alike_149 : decode cL_alike 149 = .ok (.if_icmp .ne 70, 3) := by decide +kernel
theorem dL_alike_152 : decode cL_alike 152 = .ok (.aload_n 0, 1) := by decide +kernel
theorem dL_alike_153 : decode cL_alike 153 = .ok (.bipush 11, 2) := by decide +kernel
theorem dL_alike_155 : decode cL_alike 155 = .ok (.iload_n 3, 1) := by decide +kernel
theorem dL_alike_156 : decode cL_alike 156 = .ok (.iconst 0, 1) := by decide +kernel
theorem dL_alike_157 : decode cL_alike 157 = .ok (.iconst 0, 1) := by decide +kernel
theorem dL_alike_158 : decode cL_alike 158 = .ok (.invokestatic 176, 3) := by decide +kernel
theorem dL_alike_161 : decode cL_alike 161 = .ok (.aload_n 1, 1) := by decide +kernel
theorem dL_alike_162 : decode cL_alike 162 = .ok (.bipush 11, 2) := by decide +kernel
theorem dL_alike_164 : decode cL_alike 164 = .ok (.iload_n 3, 1) := by decide +kernel
theorem dL_alike_165 : decode cL_alike 165 = .ok (.iconst 0, 1) := by decide +kernel
theorem dL_alike_166 : decode cL_alike 166 = .ok (.iconst 0, 1) := by decide +kernel
theorem dL_alike_167 : decode cL_alike 167 = .ok (.invokestatic 176, 3) := by decide +kernel
theorem dL_alike_170 : decode cL_alike 170 = .ok (.if_icmp .ne 49, 3) := by decide +kernel
theorem dL_alike_173 : decode cL_alike 173 = .ok (.aload_n 0, 1) := by decide +kernel
theorem dL_alike_174 : decode cL_alike 174 = .ok (.bipush 12, 2) := by decide +kernel
theorem dL_alike_176 : decode cL_alike 176 = .ok (.iload_n 3, 1) := by decide +kernel
theorem dL_alike_177 : decode cL_alike 177 = .ok (.iconst 0, 1) := by decide +kernel
theorem dL_alike_178 : decode cL_alike 178 = .ok (.iconst 0, 1) := by decide +kernel
theorem dL_alike_179 : decode cL_alike 179 = .ok (.invokestatic 176, 3) := by decide +kernel
theorem dL_alike_182 : decode cL_alike 182 = .ok (.aload_n 1, 1) := by decide +kernel
theorem dL_alike_183 : decode cL_alike 183 = .ok (.bipush 12, 2) := by decide +kernel
theorem dL_alike_185 : decode cL_alike 185 = .ok (.iload_n 3, 1) := by decide +kernel
theorem dL_alike_186 : decode cL_alike 186 = .ok (.iconst 0, 1) := by decide +kernel
theorem dL_alike_187 : decode cL_alike 187 = .ok (.iconst 0, 1) := by decide +kernel
theorem dL_alike_188 : decode cL_alike 188 = .ok (.invokestatic 176, 3) := by decide +kernel
theorem dL_alike_191 : decode cL_alike 191 = .ok (.if_icmp .ne 28, 3) := by decide +kernel
theorem dL_alike_194 : decode cL_alike 194 = .ok (.aload_n 0, 1) := by decide +kernel
theorem dL_alike_195 : decode cL_alike 195 = .ok (.bipush 16, 2) := by decide +kernel
theorem dL_alike_197 : decode cL_alike 197 = .ok (.iload_n 3, 1) := by decide +kernel
theorem dL_alike_198 : decode cL_alike 198 = .ok (.iconst 0, 1) := by decide +kernel
theorem dL_alike_199 : decode cL_alike 199 = .ok (.iconst 0, 1) := by decide +kernel
theorem dL_alike_200 : decode cL_alike 200 = .ok (.invokestatic 176, 3) := by decide +kernel
theorem dL_alike_203 : decode cL_alike 203 = .ok (.aload_n 1, 1) := by decide +kernel
theorem dL_alike_204 : decode cL_alike 204 = .ok (.bipush 16, 2) := by decide +kernel
theorem dL_alike_206 : decode cL_alike 206 = .ok (.iload_n 3, 1) := by decide +kernel
theorem dL_alike_207 : decode cL_alike 207 = .ok (.iconst 0, 1) := by decide +kernel
theorem dL_alike_208 : decode cL_alike 208 = .ok (.iconst 0, 1) := by decide +kernel
theorem dL_alike_209 : decode cL_alike 209 = .ok (.invokestatic 176, 3) := by decide +kernel
theorem dL_alike_212 : decode cL_alike 212 = .ok (.if_icmp .ne 7, 3) := by decide +kernel
theorem dL_alike_215 : decode cL_alike 215 = .ok (.iconst 1, 1) := by decide +kernel
theorem dL_alike_216 : decode cL_alike 216 = .ok (.goto 4, 3) := by decide +kernel
theorem dL_alike_219 : decode cL_alike 219 = .ok (.iconst 0, 1) := by decide +kernel
theorem dL_alike_220 : decode cL_alike 220 = .ok (.istore_n 2, 1) := by decide +kernel
theorem dL_alike_221 : decode cL_alike 221 = .ok (.iinc 3 1, 3) := by decide +kernel
theorem dL_alike_224 : decode cL_alike 224 = .ok (.goto (-103), 3) := by decide +kernel
theorem dL_alike_227 : decode cL_alike 227 = .ok (.iload_n 2, 1) := by decide +kernel
theorem dL_alike_228 : decode cL_alike 228 = .ok (.ireturn, 1) := by decide +kernel
theorem dL_law_0 : decode cL_law 0 = .ok (.new 8, 3) := by decide +kernel
theorem dL_law_3 : decode cL_law 3 = .ok (.dup, 1) := by decide +kernel
theorem dL_law_4 : decode cL_law 4 = .ok (.invokespecial 246, 3) := by decide +kernel
theorem dL_law_7 : decode cL_law 7 = .ok (.astore_n 1, 1) := by decide +kernel
theorem dL_law_8 : decode cL_law 8 = .ok (.new 8, 3) := by decide +kernel
theorem dL_law_11 : decode cL_law 11 = .ok (.dup, 1) := by decide +kernel
theorem dL_law_12 : decode cL_law 12 = .ok (.invokespecial 246, 3) := by decide +kernel
theorem dL_law_15 : decode cL_law 15 = .ok (.astore_n 2, 1) := by decide +kernel
theorem dL_law_16 : decode cL_law 16 = .ok (.bipush 12, 2) := by decide +kernel
theorem dL_law_18 : decode cL_law 18 = .ok (.aload_n 0, 1) := by decide +kernel
theorem dL_law_19 : decode cL_law 19 = .ok (.iconst 0, 1) := by decide +kernel
theorem dL_law_20 : decode cL_law 20 = .ok (.invokestatic 247, 3) := by decide +kernel
theorem dL_law_23 : decode cL_law 23 = .ok (.bipush 21, 2) := by decide +kernel
theorem dL_law_25 : decode cL_law 25 = .ok (.irem, 1) := by decide +kernel
theorem dL_law_26 : decode cL_law 26 = .ok (.iadd, 1) := by decide +kernel
theorem dL_law_27 : decode cL_law 27 = .ok (.istore_n 3, 1) := by decide +kernel
theorem dL_law_28 : decode cL_law 28 = .ok (.iconst 1, 1) := by decide +kernel
theorem dL_law_29 : decode cL_law 29 = .ok (.istore 4, 2) := by decide +kernel
theorem dL_law_31 : decode cL_law 31 = .ok (.iconst 0, 1) := by decide +kernel
theorem dL_law_32 : decode cL_law 32 = .ok (.istore 5, 2) := by decide +kernel
theorem dL_law_34 : decode cL_law 34 = .ok (.iload 5, 2) := by decide +kernel
theorem dL_law_36 : decode cL_law 36 = .ok (.iload_n 3, 1) := by decide +kernel
theorem dL_law_37 : decode cL_law 37 = .ok (.if_icmp .ge 154, 3) := by decide +kernel
theorem dL_law_40 : decode cL_law 40 = .ok (.iload 4, 2) := by decide +kernel
theorem dL_law_42 : decode cL_law 42 = .ok (.ifCond .eq 149, 3) := by decide +kernel
theorem dL_law_45 : decode cL_law 45 = .ok (.aload_n 0, 1) := by decide +kernel
theorem dL_law_46 : decode cL_law 46 = .ok (.iconst 1, 1) := by decide +kernel
theorem dL_law_47 : decode cL_law 47 = .ok (.iload 5, 2) := by decide +kernel
theorem dL_law_49 : decode cL_law 49 = .ok (.iadd, 1) := by decide +kernel
theorem dL_law_50 : decode cL_law 50 = .ok (.invokestatic 247, 3) := by decide +kernel
theorem dL_law_53 : decode cL_law 53 = .ok (.istore 6, 2) := by decide +kernel
theorem dL_law_55 : decode cL_law 55 = .ok (.aload_n 1, 1) := by decide +kernel
theorem dL_law_56 : decode cL_law 56 = .ok (.iload 6, 2) := by decide +kernel
theorem dL_law_58 : decode cL_law 58 = .ok (.invokestatic 251, 3) := by decide +kernel
theorem dL_law_61 : decode cL_law 61 = .ok (.istore 7, 2) := by decide +kernel
theorem dL_law_63 : decode cL_law 63 = .ok (.aload_n 2, 1) := by decide +kernel
theorem dL_law_64 : decode cL_law 64 = .ok (.iload 6, 2) := by decide +kernel
theorem dL_law_66 : decode cL_law 66 = .ok (.ldc 254, 2) := by decide +kernel
theorem dL_law_68 : decode cL_law 68 = .ok (.irem, 1) := by decide +kernel
theorem dL_law_69 : decode cL_law 69 = .ok (.invokestatic 255, 3) := by decide +kernel
theorem dL_law_72 : decode cL_law 72 = .ok (.ifCond .eq 110, 3) := by decide +kernel
theorem dL_law_75 : decode cL_law 75 = .ok (.aload_n 2, 1) := by decide +kernel
theorem dL_law_76 : decode cL_law 76 = .ok (.iload 6, 2) := by decide +kernel
theorem dL_law_78 : decode cL_law 78 = .ok (.invokestatic 251, 3) := by decide +kernel
theorem dL_law_81 : decode cL_law 81 = .ok (.iload 7, 2) := by decide +kernel
theorem dL_law_83 : decode cL_law 83 = .ok (.if_icmp .ne 99, 3) := by decide +kernel
theorem dL_law_86 : decode cL_law 86 = .ok (.aload_n 2, 1) := by decide +kernel
theorem dL_law_87 : decode cL_law 87 = .ok (.iload 6, 2) := by decide +kernel
theorem dL_law_89 : decode cL_law 89 = .ok (.sipush 1000, 3) := by decide +kernel
theorem dL_law_92 : decode cL_law 92 = .ok (.irem, 1) := by decide +kernel
theorem dL_law_93 : decode cL_law 93 = .ok (.invokestatic 255, 3) := by decide +kernel
theorem dL_law_96 : decode cL_law 96 = .ok (.ifCond .eq 86, 3) := by decide +kernel
theorem dL_law_99 : decode cL_law 99 = .ok (.aload_n 1, 1) := by decide +kernel
theorem dL_law_100 : decode cL_law 100 = .ok (.aload_n 2, 1) := by decide +kernel
theorem dL_law_101 : decode cL_law 101 = .ok (.invokestatic 259, 3) := by decide +kernel
theorem dL_law_104 : decode cL_law 104 = .ok (.ifCond .eq 78, 3) := by decide +kernel
theorem dL_law_107 : decode cL_law 107 = .ok (.iload 5, 2) := by decide +kernel
theorem dL_law_109 : decode cL_law 109 = .ok (.iconst 2, 1) := by decide +kernel
theorem dL_law_110 : decode cL_law 110 = .ok (.irem, 1) := by decide +kernel
theorem dL_law_111 : decode cL_law 111 = .ok (.ifCond .ne 13, 3) := by decide +kernel
theorem dL_law_114 : decode cL_law 114 = .ok (.aload_n 1, 1) := by decide +kernel
theorem dL_law_115 : decode cL_law 115 = .ok (.invokestatic 263, 3) := by decide +kernel
theorem dL_law_118 : decode cL_law 118 = .ok (.ifCond .eq 64, 3) := by decide +kernel
theorem dL_law_121 : decode cL_law 121 = .ok (.goto 10, 3) := by decide +kernel
theorem dL_law_124 : decode cL_law 124 = .ok (.aload_n 2, 1) := by decide +kernel
theorem dL_law_125 : decode cL_law 125 = .ok (.invokestatic 263, 3) := by decide +kernel
theorem dL_law_128 : decode cL_law 128 = .ok (.ifCond .eq 54, 3) := by decide +kernel
theorem dL_law_131 : decode cL_law 131 = .ok (.iload 5, 2) := by decide +kernel
theorem dL_law_133 : decode cL_law 133 = .ok (.iconst 4, 1) := by decide +kernel
theorem dL_law_134 : decode cL_law 134 = .ok (.irem, 1) := by decide +kernel
theorem dL_law_135 : decode cL_law 135 = .ok (.ifCond .gt 30, 3) := by decide +kernel
theorem dL_law_138 : decode cL_law 138 = .ok (.aload_n 1, 1) := by decide +kernel
theorem dL_law_139 : decode cL_law 139 = .ok (.invokestatic 267, 3) := by decide +kernel
theorem dL_law_142 : decode cL_law 142 = .ok (.ifCond .eq 40, 3) := by decide +kernel
theorem dL_law_145 : decode cL_law 145 = .ok (.aload_n 1, 1) := by decide +kernel
theorem dL_law_146 : decode cL_law 146 = .ok (.invokevirtual 270, 3) := by decide +kernel
theorem dL_law_149 : decode cL_law 149 = .ok (.aload_n 2, 1) := by decide +kernel
theorem dL_law_150 : decode cL_law 150 = .ok (.invokevirtual 270, 3) := by decide +kernel
theorem dL_law_153 : decode cL_law 153 = .ok (.lcmp, 1) := by decide +kernel
theorem dL_law_154 : decode cL_law 154 = .ok (.ifCond .ne 28, 3) := by decide +kernel
theorem dL_law_157 : decode cL_law 157 = .ok (.aload_n 1, 1) := by decide +kernel
theorem dL_law_158 : decode cL_law 158 = .ok (.aload_n 2, 1) := by decide +kernel
theorem dL_law_159 : decode cL_law 159 = .ok (.invokestatic 274, 3) := by decide +kernel
theorem dL_law_162 : decode cL_law 162 = .ok (.ifCond .eq 20, 3) := by decide +kernel
theorem dL_law_165 : decode cL_law 165 = .ok (.aload_n 1, 1) := by decide +kernel
theorem dL_law_166 : decode cL_law 166 = .ok (.aload_n 2, 1) := by decide +kernel
theorem dL_law_167 : decode cL_law 167 = .ok (.iload 6, 2) := by decide +kernel
theorem dL_law_169 : decode cL_law 169 = .ok (.bipush 7, 2) := by decide +kernel
theorem dL_law_171 : decode cL_law 171 = .ok (.idiv, 1) := by decide +kernel
theorem dL_law_172 : decode cL_law 172 = .ok (.invokestatic 277, 3) := by decide +kernel
theorem dL_law_175 : decode cL_law 175 = .ok (.ifCond .eq 7, 3) := by decide +kernel
theorem dL_law_178 : decode cL_law 178 = .ok (.iconst 1, 1) := by decide +kernel
theorem dL_law_179 : decode cL_law 179 = .ok (.goto 4, 3) := by decide +kernel
theorem dL_law_182 : decode cL_law 182 = .ok (.iconst 0, 1) := by decide +kernel
theorem dL_law_183 : decode cL_law 183 = .ok (.istore 4, 2) := by decide +kernel
theorem dL_law_185 : decode cL_law 185 = .ok (.iinc 5 1, 3) := by decide +kernel
theorem dL_law_188 : decode cL_law 188 = .ok (.goto (-154), 3) := by decide +kernel
theorem dL_law_191 : decode cL_law 191 = .ok (.iload 4, 2) := by decide +kernel
theorem dL_law_193 : decode cL_law 193 = .ok (.ireturn, 1) := by decide +kernel
theorem dL_undoes_0 : decode cL_undoes 0 = .ok (.iconst 1, 1) := by decide +kernel
theorem dL_undoes_1 : decode cL_undoes 1 = .ok (.istore_n 3, 1) := by decide +kernel
theorem dL_undoes_2 : decode cL_undoes 2 = .ok (.iconst 0, 1) := by decide +kernel
theorem dL_undoes_3 : decode cL_undoes 3 = .ok (.istore 4, 2) := by decide +kernel
theorem dL_undoes_5 : decode cL_undoes 5 = .ok (.iload 4, 2) := by decide +kernel
theorem dL_undoes_7 : decode cL_undoes 7 = .ok (.iload_n 2, 1) := by decide +kernel
theorem dL_undoes_8 : decode cL_undoes 8 = .ok (.if_icmp .ge 49, 3) := by decide +kernel
theorem dL_undoes_11 : decode cL_undoes 11 = .ok (.iload_n 3, 1) := by decide +kernel
theorem dL_undoes_12 : decode cL_undoes 12 = .ok (.ifCond .eq 45, 3) := by decide +kernel
theorem dL_undoes_15 : decode cL_undoes 15 = .ok (.aload_n 0, 1) := by decide +kernel
theorem dL_undoes_16 : decode cL_undoes 16 = .ok (.bipush 8, 2) := by decide +kernel
theorem dL_undoes_18 : decode cL_undoes 18 = .ok (.iconst 0, 1) := by decide +kernel
theorem dL_undoes_19 : decode cL_undoes 19 = .ok (.iconst 0, 1) := by decide +kernel
theorem dL_undoes_20 : decode cL_undoes 20 = .ok (.iconst 0, 1) := by decide +kernel
theorem dL_undoes_21 : decode cL_undoes 21 = .ok (.invokestatic 176, 3) := by decide +kernel
theorem dL_undoes_24 : decode cL_undoes 24 = .ok (.invokestatic 281, 3) := by decide +kernel
theorem dL_undoes_27 : decode cL_undoes 27 = .ok (.ifCond .ne 22, 3) := by decide +kernel
theorem dL_undoes_30 : decode cL_undoes 30 = .ok (.aload_n 1, 1) := by decide +kernel
theorem dL_undoes_31 : decode cL_undoes 31 = .ok (.bipush 8, 2) := by decide +kernel
theorem dL_undoes_33 : decode cL_undoes 33 = .ok (.iconst 0, 1) := by decide +kernel
theorem dL_undoes_34 : decode cL_undoes 34 = .ok (.iconst 0, 1) := by decide +kernel
theorem dL_undoes_35 : decode cL_undoes 35 = .ok (.iconst 0, 1) := by decide +kernel
theorem dL_undoes_36 : decode cL_undoes 36 = .ok (.invokestatic 176, 3) := by decide +kernel
theorem dL_undoes_39 : decode cL_undoes 39 = .ok (.invokestatic 281, 3) := by decide +kernel
theorem dL_undoes_42 : decode cL_undoes 42 = .ok (.ifCond .ne 7, 3) := by decide +kernel
theorem dL_undoes_45 : decode cL_undoes 45 = .ok (.iconst 1, 1) := by decide +kernel
theorem dL_undoes_46 : decode cL_undoes 46 = .ok (.goto 4, 3) := by decide +kernel
theorem dL_undoes_49 : decode cL_undoes 49 = .ok (.iconst 0, 1) := by decide +kernel
theorem dL_undoes_50 : decode cL_undoes 50 = .ok (.istore_n 3, 1) := by decide +kernel
theorem dL_undoes_51 : decode cL_undoes 51 = .ok (.iinc 4 1, 3) := by decide +kernel
theorem dL_undoes_54 : decode cL_undoes 54 = .ok (.goto (-49), 3) := by decide +kernel
theorem dL_undoes_57 : decode cL_undoes 57 = .ok (.iload_n 3, 1) := by decide +kernel
theorem dL_undoes_58 : decode cL_undoes 58 = .ok (.ireturn, 1) := by decide +kernel
theorem dL_slides_0 : decode cL_slides 0 = .ok (.aload_n 0, 1) := by decide +kernel
theorem dL_slides_1 : decode cL_slides 1 = .ok (.invokevirtual 173, 3) := by decide +kernel
theorem dL_slides_4 : decode cL_slides 4 = .ok (.ifCond .eq 12, 3) := by decide +kernel
theorem dL_slides_7 : decode cL_slides 7 = .ok (.aload_n 0, 1) := by decide +kernel
theorem dL_slides_8 : decode cL_slides 8 = .ok (.invokevirtual 188, 3) := by decide +kernel
theorem dL_slides_11 : decode cL_slides 11 = .ok (.bipush 60, 2) := by decide +kernel
theorem dL_slides_13 : decode cL_slides 13 = .ok (.if_icmp .ne 5, 3) := by decide +kernel
theorem dL_slides_16 : decode cL_slides 16 = .ok (.iconst 1, 1) := by decide +kernel
theorem dL_slides_17 : decode cL_slides 17 = .ok (.ireturn, 1) := by decide +kernel
theorem dL_slides_18 : decode cL_slides 18 = .ok (.iload_n 2, 1) := by decide +kernel
theorem dL_slides_19 : decode cL_slides 19 = .ok (.aload_n 0, 1) := by decide +kernel
theorem dL_slides_20 : decode cL_slides 20 = .ok (.invokevirtual 173, 3) := by decide +kernel
theorem dL_slides_23 : decode cL_slides 23 = .ok (.irem, 1) := by decide +kernel
theorem dL_slides_24 : decode cL_slides 24 = .ok (.istore_n 3, 1) := by decide +kernel
theorem dL_slides_25 : decode cL_slides 25 = .ok (.iload_n 2, 1) := by decide +kernel
theorem dL_slides_26 : decode cL_slides 26 = .ok (.bipush 8, 2) := by decide +kernel
theorem dL_slides_28 : decode cL_slides 28 = .ok (.idiv, 1) := by decide +kernel
theorem dL_slides_29 : decode cL_slides 29 = .ok (.iconst 2, 1) := by decide +kernel
theorem dL_slides_30 : decode cL_slides 30 = .ok (.irem, 1) := by decide +kernel
theorem dL_slides_31 : decode cL_slides 31 = .ok (.ifCond .ne 7, 3) := by decide +kernel
theorem dL_slides_34 : decode cL_slides 34 = .ok (.iconst 1, 1) := by decide +kernel
theorem dL_slides_35 : decode cL_slides 35 = .ok (.goto 4, 3) := by decide +kernel
theorem dL_slides_38 : decode cL_slides 38 = .ok (.iconst 0, 1) := by decide +kernel
theorem dL_slides_39 : decode cL_slides 39 = .ok (.istore 4, 2) := by decide +kernel
theorem dL_slides_41 : decode cL_slides 41 = .ok (.aload_n 0, 1) := by decide +kernel
theorem dL_slides_42 : decode cL_slides 42 = .ok (.iload_n 3, 1) := by decide +kernel
theorem dL_slides_43 : decode cL_slides 43 = .ok (.iload 4, 2) := by decide +kernel
theorem dL_slides_45 : decode cL_slides 45 = .ok (.invokestatic 185, 3) := by decide +kernel
theorem dL_slides_48 : decode cL_slides 48 = .ok (.istore 5, 2) := by decide +kernel
theorem dL_slides_50 : decode cL_slides 50 = .ok (.iload 5, 2) := by decide +kernel
theorem dL_slides_52 : decode cL_slides 52 = .ok (.ifCond .ne 53, 3) := by decide +kernel
theorem dL_slides_55 : decode cL_slides 55 = .ok (.aload_n 0, 1) := by decide +kernel
theorem dL_slides_56 : decode cL_slides 56 = .ok (.iconst 2, 1) := by decide +kernel
theorem dL_slides_57 : decode cL_slides 57 = .ok (.iload_n 3, 1) := by decide +kernel
theorem dL_slides_58 : decode cL_slides 58 = .ok (.iload 4, 2) := by decide +kernel
theorem dL_slides_60 : decode cL_slides 60 = .ok (.ifCond .eq 7, 3) := by decide +kernel
theorem dL_slides_63 : decode cL_slides 63 = .ok (.iconst 1, 1) := by decide +kernel
theorem dL_slides_64 : decode cL_slides 64 = .ok (.goto 4, 3) := by decide +kernel
theorem dL_slides_67 : decode cL_slides 67 = .ok (.iconst (-1), 1) := by decide +kernel
theorem dL_slides_68 : decode cL_slides 68 = .ok (.iconst 0, 1) := by decide +kernel
theorem dL_slides_69 : decode cL_slides 69 = .ok (.invokestatic 176, 3) := by decide +kernel
theorem dL_slides_72 : decode cL_slides 72 = .ok (.ldc 18, 2) := by decide +kernel
theorem dL_slides_74 : decode cL_slides 74 = .ok (.if_icmp .ne 29, 3) := by decide +kernel
theorem dL_slides_77 : decode cL_slides 77 = .ok (.aload_n 1, 1) := by decide +kernel
theorem dL_slides_78 : decode cL_slides 78 = .ok (.iconst 2, 1) := by decide +kernel
theorem dL_slides_79 : decode cL_slides 79 = .ok (.iload_n 3, 1) := by decide +kernel
theorem dL_slides_80 : decode cL_slides 80 = .ok (.iload 4, 2) := by decide +kernel
theorem dL_slides_82 : decode cL_slides 82 = .ok (.ifCond .eq 7, 3) := by decide +kernel
theorem dL_slides_85 : decode cL_slides 85 = .ok (.iconst 1, 1) := by decide +kernel
theorem dL_slides_86 : decode cL_slides 86 = .ok (.goto 4, 3) := by decide +kernel
theorem dL_slides_89 : decode cL_slides 89 = .ok (.iconst (-1), 1) := by decide +kernel
theorem dL_slides_90 : decode cL_slides 90 = .ok (.iconst 0, 1) := by decide +kernel
theorem dL_slides_91 : decode cL_slides 91 = .ok (.invokestatic 176, 3) := by decide +kernel
theorem dL_slides_94 : decode cL_slides 94 = .ok (.ldc 18, 2) := by decide +kernel
theorem dL_slides_96 : decode cL_slides 96 = .ok (.if_icmp .ne 7, 3) := by decide +kernel
theorem dL_slides_99 : decode cL_slides 99 = .ok (.iconst 1, 1) := by decide +kernel
theorem dL_slides_100 : decode cL_slides 100 = .ok (.goto 4, 3) := by decide +kernel
theorem dL_slides_103 : decode cL_slides 103 = .ok (.iconst 0, 1) := by decide +kernel
theorem dL_slides_104 : decode cL_slides 104 = .ok (.ireturn, 1) := by decide +kernel
theorem dL_slides_105 : decode cL_slides 105 = .ok (.iconst 1, 1) := by decide +kernel
theorem dL_slides_106 : decode cL_slides 106 = .ok (.iload_n 2, 1) := by decide +kernel
theorem dL_slides_107 : decode cL_slides 107 = .ok (.bipush 16, 2) := by decide +kernel
theorem dL_slides_109 : decode cL_slides 109 = .ok (.idiv, 1) := by decide +kernel
theorem dL_slides_110 : decode cL_slides 110 = .ok (.iload 5, 2) := by decide +kernel
theorem dL_slides_112 : decode cL_slides 112 = .ok (.irem, 1) := by decide +kernel
theorem dL_slides_113 : decode cL_slides 113 = .ok (.iadd, 1) := by decide +kernel
theorem dL_slides_114 : decode cL_slides 114 = .ok (.istore 6, 2) := by decide +kernel
theorem dL_slides_116 : decode cL_slides 116 = .ok (.iload 4, 2) := by decide +kernel
theorem dL_slides_118 : decode cL_slides 118 = .ok (.ifCond .eq 8, 3) := by decide +kernel
theorem dL_slides_121 : decode cL_slides 121 = .ok (.iload 6, 2) := by decide +kernel
theorem dL_slides_123 : decode cL_slides 123 = .ok (.goto 6, 3) := by decide +kernel
theorem dL_slides_126 : decode cL_slides 126 = .ok (.iload 6, 2) := by decide +kernel
theorem dL_slides_128 : decode cL_slides 128 = .ok (.ineg, 1) := by decide +kernel
theorem dL_slides_129 : decode cL_slides 129 = .ok (.istore 7, 2) := by decide +kernel
theorem dL_slides_131 : decode cL_slides 131 = .ok (.aload_n 0, 1) := by decide +kernel
theorem dL_slides_132 : decode cL_slides 132 = .ok (.bipush 11, 2) := by decide +kernel
theorem dL_slides_134 : decode cL_slides 134 = .ok (.iload_n 3, 1) := by decide +kernel
theorem dL_slides_135 : decode cL_slides 135 = .ok (.iconst 0, 1) := by decide +kernel
theorem dL_slides_136 : decode cL_slides 136 = .ok (.iconst 0, 1) := by decide +kernel
theorem dL_slides_137 : decode cL_slides 137 = .ok (.invokestatic 176, 3) := by decide +kernel
theorem dL_slides_140 : decode cL_slides 140 = .ok (.istore 8, 2) := by decide +kernel
theorem dL_slides_142 : decode cL_slides 142 = .ok (.aload_n 0, 1) := by decide +kernel
theorem dL_slides_143 : decode cL_slides 143 = .ok (.invokevirtual 204, 3) := by decide +kernel
theorem dL_slides_146 : decode cL_slides 146 = .ok (.istore 9, 2) := by decide +kernel
theorem dL_slides_148 : decode cL_slides 148 = .ok (.aload_n 0, 1) := by decide +kernel
theorem dL_slides_149 : decode cL_slides 149 = .ok (.invokevirtual 188, 3) := by decide +kernel
theorem dL_slides_152 : decode cL_slides 152 = .ok (.istore 10, 2) := by decide +kernel
theorem dL_slides_154 : decode cL_slides 154 = .ok (.aload_n 0, 1) := by decide +kernel
theorem dL_slides_155 : decode cL_slides 155 = .ok (.iconst 2, 1) := by decide +kernel
theorem dL_slides_156 : decode cL_slides 156 = .ok (.iload_n 3, 1) := by decide +kernel
theorem dL_slides_157 : decode cL_slides 157 = .ok (.iload 7, 2) := by decide +kernel
theorem dL_slides_159 : decode cL_slides 159 = .ok (.iconst 0, 1) := by decide +kernel
theorem dL_slides_160 : decode cL_slides 160 = .ok (.invokestatic 176, 3) := by decide +kernel
theorem dL_slides_163 : decode cL_slides 163 = .ok (.iload 8, 2) := by decide +kernel
theorem dL_slides_165 : decode cL_slides 165 = .ok (.iload 7, 2) := by decide +kernel
theorem dL_slides_167 : decode cL_slides 167 = .ok (.iadd, 1) := by decide +kernel
theorem dL_slides_168 : decode cL_slides 168 = .ok (.if_icmp .ne 153, 3) := by decide +kernel
theorem dL_slides_171 : decode cL_slides 171 = .ok (.aload_n 1, 1) := by decide +kernel
theorem dL_slides_172 : decode cL_slides 172 = .ok (.iconst 2, 1) := by decide +kernel
theorem dL_slides_173 : decode cL_slides 173 = .ok (.iload_n 3, 1) := by decide +kernel
theorem dL_slides_174 : decode cL_slides 174 = .ok (.iload 7, 2) := by decide +kernel
theorem dL_slides_176 : decode cL_slides 176 = .ok (.iconst 0, 1) := by decide +kernel
theorem dL_slides_177 : decode cL_slides 177 = .ok (.invokestatic 176, 3) := by decide +kernel
theorem dL_slides_180 : decode cL_slides 180 = .ok (.iload 8, 2) := by decide +kernel
theorem dL_slides_182 : decode cL_slides 182 = .ok (.iload 7, 2) := by decide +kernel
theorem dL_slides_184 : decode cL_slides 184 = .ok (.iadd, 1) := by decide +kernel
theorem dL_slides_185 : decode cL_slides 185 = .ok (.if_icmp .ne 136, 3) := by decide +kernel
theorem dL_slides_188 : decode cL_slides 188 = .ok (.aload_n 0, 1) := by decide +kernel
theorem dL_slides_189 : decode cL_slides 189 = .ok (.invokevirtual 204, 3) := by decide +kernel
theorem dL_slides_192 : decode cL_slides 192 = .ok (.iload 9, 2) := by decide +kernel
theorem dL_slides_194 : decode cL_slides 194 = .ok (.iload 6, 2) := by decide +kernel
theorem dL_slides_196 : decode cL_slides 196 = .ok (.aload_n 0, 1) := by decide +kernel
theorem dL_slides_197 : decode cL_slides 197 = .ok (.bipush 12, 2) := by decide +kernel
theorem dL_slides_199 : decode cL_slides 199 = .ok (.iload_n 3, 1) := by decide +kernel
theorem dL_slides_200 : decode cL_slides 200 = .ok (.iconst 0, 1) := by decide +kernel
theorem dL_slides_201 : decode cL_slides 201 = .ok (.iconst 0, 1) := by decide +kernel
theorem dL_slides_202 : decode cL_slides 202 = .ok (.invokestatic 176, 3) := by decide +kernel
theorem dL_slides_205 : decode cL_slides 205 = .ok (.imul, 1) := by decide +kernel
theorem dL_slides_206 : decode cL_slides 206 = .ok (.iadd, 1) := by decide +kernel
theorem dL_slides_207 : decode cL_slides 207 = .ok (.if_icmp .ne 114, 3) := by decide +kernel
theorem dL_slides_210 : decode cL_slides 210 = .ok (.aload_n 0, 1) := by decide +kernel
theorem dL_slides_211 : decode cL_slides 211 = .ok (.invokevirtual 188, 3) := by decide +kernel
theorem dL_slides_214 : decode cL_slides 214 = .ok (.iload 10, 2) := by decide +kernel
theorem dL_slides_216 : decode cL_slides 216 = .ok (.iconst 1, 1) := by decide +kernel
theorem dL_slides_217 : decode cL_slides 217 = .ok (.iadd, 1) := by decide +kernel
theorem dL_slides_218 : decode cL_slides 218 = .ok (.if_icmp .ne 103, 3) := by decide +kernel
theorem dL_slides_221 : decode cL_slides 221 = .ok (.aload_n 0, 1) := by decide +kernel
theorem dL_slides_222 : decode cL_slides 222 = .ok (.bipush 14, 2) := by decide +kernel
theorem dL_slides_224 : decode cL_slides 224 = .ok (.iload 10, 2) := by decide +kernel
theorem dL_slides_226 : decode cL_slides 226 = .ok (.iconst 0, 1) := by decide +kernel
theorem dL_slides_227 : decode cL_slides 227 = .ok (.iconst 0, 1) := by decide +kernel
theorem dL_slides_228 : decode cL_slides 228 = .ok (.invokestatic 176, 3) := by decide +kernel
theorem dL_slides_231 : decode cL_slides 231 = .ok (.iload_n 3, 1) := by decide +kernel
theorem dL_slides_232 : decode cL_slides 232 = .ok (.if_icmp .ne 89, 3) := by decide +kernel
theorem dL_slides_235 : decode cL_slides 235 = .ok (.aload_n 0, 1) := by decide +kernel
theorem dL_slides_236 : decode cL_slides 236 = .ok (.bipush 15, 2) := by decide +kernel
theorem dL_slides_238 : decode cL_slides 238 = .ok (.iload 10, 2) := by decide +kernel
theorem dL_slides_240 : decode cL_slides 240 = .ok (.iconst 0, 1) := by decide +kernel
theorem dL_slides_241 : decode cL_slides 241 = .ok (.iconst 0, 1) := by decide +kernel
theorem dL_slides_242 : decode cL_slides 242 = .ok (.invokestatic 176, 3) := by decide +kernel
theorem dL_slides_245 : decode cL_slides 245 = .ok (.iload 7, 2) := by decide +kernel
theorem dL_slides_247 : decode cL_slides 247 = .ok (.if_icmp .ne 74, 3) := by decide +kernel
theorem dL_slides_250 : decode cL_slides 250 = .ok (.aload_n 0, 1) := by decide +kernel
theorem dL_slides_251 : decode cL_slides 251 = .ok (.iload_n 3, 1) := by decide +kernel
theorem dL_slides_252 : decode cL_slides 252 = .ok (.iload 4, 2) := by decide +kernel
theorem dL_slides_254 : decode cL_slides 254 = .ok (.ifCond .ne 7, 3) := by decide +kernel
theorem dL_slides_257 : decode cL_slides 257 = .ok (.iconst 1, 1) := by decide +kernel
theorem dL_slides_258 : decode cL_slides 258 = .ok (.goto 4, 3) := by decide +kernel
theorem dL_slides_261 : decode cL_slides 261 = .ok (.iconst 0, 1) := by decide +kernel
theorem dL_slides_262 : decode cL_slides 262 = .ok (.invokestatic 185, 3) := by decide +kernel
theorem dL_slides_265 : decode cL_slides 265 = .ok (.iload 6, 2) := by decide +kernel
theorem dL_slides_267 : decode cL_slides 267 = .ok (.if_icmp .lt 54, 3) := by decide +kernel
theorem dL_slides_270 : decode cL_slides 270 = .ok (.aload_n 0, 1) := by decide +kernel
theorem dL_slides_271 : decode cL_slides 271 = .ok (.iconst 3, 1) := by decide +kernel
theorem dL_slides_272 : decode cL_slides 272 = .ok (.iconst 0, 1) := by decide +kernel
theorem dL_slides_273 : decode cL_slides 273 = .ok (.iconst 0, 1) := by decide +kernel
theorem dL_slides_274 : decode cL_slides 274 = .ok (.iconst 0, 1) := by decide +kernel
theorem dL_slides_275 : decode cL_slides 275 = .ok (.invokestatic 176, 3) := by decide +kernel
theorem dL_slides_278 : decode cL_slides 278 = .ok (.iload_n 3, 1) := by decide +kernel
theorem dL_slides_279 : decode cL_slides 279 = .ok (.if_icmp .ne 42, 3) := by decide +kernel
theorem dL_slides_282 : decode cL_slides 282 = .ok (.aload_n 1, 1) := by decide +kernel
theorem dL_slides_283 : decode cL_slides 283 = .ok (.iconst 3, 1) := by decide +kernel
theorem dL_slides_284 : decode cL_slides 284 = .ok (.iconst 0, 1) := by decide +kernel
theorem dL_slides_285 : decode cL_slides 285 = .ok (.iconst 0, 1) := by decide +kernel
theorem dL_slides_286 : decode cL_slides 286 = .ok (.iconst 0, 1) := by decide +kernel
theorem dL_slides_287 : decode cL_slides 287 = .ok (.invokestatic 176, 3) := by decide +kernel
theorem dL_slides_290 : decode cL_slides 290 = .ok (.iload_n 3, 1) := by decide +kernel
theorem dL_slides_291 : decode cL_slides 291 = .ok (.if_icmp .ne 30, 3) := by decide +kernel
theorem dL_slides_294 : decode cL_slides 294 = .ok (.aload_n 0, 1) := by decide +kernel
theorem dL_slides_295 : decode cL_slides 295 = .ok (.bipush 11, 2) := by decide +kernel
theorem dL_slides_297 : decode cL_slides 297 = .ok (.iload_n 3, 1) := by decide +kernel
theorem dL_slides_298 : decode cL_slides 298 = .ok (.iconst 0, 1) := by decide +kernel
theorem dL_slides_299 : decode cL_slides 299 = .ok (.iconst 0, 1) := by decide +kernel
theorem dL_slides_300 : decode cL_slides 300 = .ok (.invokestatic 176, 3) := by decide +kernel
theorem dL_slides_303 : decode cL_slides 303 = .ok (.iload 8, 2) := by decide +kernel
theorem dL_slides_305 : decode cL_slides 305 = .ok (.if_icmp .ne 16, 3) := by decide +kernel
theorem dL_slides_308 : decode cL_slides 308 = .ok (.aload_n 0, 1) := by decide +kernel
theorem dL_slides_309 : decode cL_slides 309 = .ok (.invokevirtual 204, 3) := by decide +kernel
theorem dL_slides_312 : decode cL_slides 312 = .ok (.iload 9, 2) := by decide +kernel
theorem dL_slides_314 : decode cL_slides 314 = .ok (.if_icmp .ne 7, 3) := by decide +kernel
theorem dL_slides_317 : decode cL_slides 317 = .ok (.iconst 1, 1) := by decide +kernel
theorem dL_slides_318 : decode cL_slides 318 = .ok (.goto 4, 3) := by decide +kernel
theorem dL_slides_321 : decode cL_slides 321 = .ok (.iconst 0, 1) := by decide +kernel
theorem dL_slides_322 : decode cL_slides 322 = .ok (.istore 11, 2) := by decide +kernel
theorem dL_slides_324 : decode cL_slides 324 = .ok (.iload 11, 2) := by decide +kernel
theorem dL_slides_326 : decode cL_slides 326 = .ok (.ifCond .eq 39, 3) := by decide +kernel
theorem dL_slides_329 : decode cL_slides 329 = .ok (.aload_n 0, 1) := by decide +kernel
theorem dL_slides_330 : decode cL_slides 330 = .ok (.aload_n 1, 1) := by decide +kernel
theorem dL_slides_331 : decode cL_slides 331 = .ok (.iconst 2, 1) := by decide +kernel
theorem dL_slides_332 : decode cL_slides 332 = .ok (.invokestatic 284, 3) := by decide +kernel
theorem dL_slides_335 : decode cL_slides 335 = .ok (.ifCond .eq 30, 3) := by decide +kernel
theorem dL_slides_338 : decode cL_slides 338 = .ok (.aload_n 0, 1) := by decide +kernel
theorem dL_slides_339 : decode cL_slides 339 = .ok (.invokevirtual 188, 3) := by decide +kernel
theorem dL_slides_342 : decode cL_slides 342 = .ok (.iload 10, 2) := by decide +kernel
theorem dL_slides_344 : decode cL_slides 344 = .ok (.if_icmp .ne 21, 3) := by decide +kernel
theorem dL_slides_347 : decode cL_slides 347 = .ok (.aload_n 0, 1) := by decide +kernel
theorem dL_slides_348 : decode cL_slides 348 = .ok (.bipush 11, 2) := by decide +kernel
theorem dL_slides_350 : decode cL_slides 350 = .ok (.iload_n 3, 1) := by decide +kernel
theorem dL_slides_351 : decode cL_slides 351 = .ok (.iconst 0, 1) := by decide +kernel
theorem dL_slides_352 : decode cL_slides 352 = .ok (.iconst 0, 1) := by decide +kernel
theorem dL_slides_353 : decode cL_slides 353 = .ok (.invokestatic 176, 3) := by decide +kernel
theorem dL_slides_356 : decode cL_slides 356 = .ok (.iload 8, 2) := by decide +kernel
theorem dL_slides_358 : decode cL_slides 358 = .ok (.if_icmp .ne 7, 3) := by decide +kernel
theorem dL_slides_361 : decode cL_slides 361 = .ok (.iconst 1, 1) := by decide +kernel
theorem dL_slides_362 : decode cL_slides 362 = .ok (.goto 4, 3) := by decide +kernel
theorem dL_slides_365 : decode cL_slides 365 = .ok (.iconst 0, 1) := by decide +kernel
theorem dL_slides_366 : decode cL_slides 366 = .ok (.ireturn, 1) := by decide +kernel
theorem dL_drives_0 : decode cL_drives 0 = .ok (.aload_n 0, 1) := by decide +kernel
theorem dL_drives_1 : decode cL_drives 1 = .ok (.invokevirtual 210, 3) := by decide +kernel
theorem dL_drives_4 : decode cL_drives 4 = .ok (.istore_n 2, 1) := by decide +kernel
theorem dL_drives_5 : decode cL_drives 5 = .ok (.aload_n 0, 1) := by decide +kernel
theorem dL_drives_6 : decode cL_drives 6 = .ok (.invokevirtual 188, 3) := by decide +kernel
theorem dL_drives_9 : decode cL_drives 9 = .ok (.istore_n 3, 1) := by decide +kernel
theorem dL_drives_10 : decode cL_drives 10 = .ok (.iload_n 2, 1) := by decide +kernel
theorem dL_drives_11 : decode cL_drives 11 = .ok (.ifCond .lt 11, 3) := by decide +kernel
theorem dL_drives_14 : decode cL_drives 14 = .ok (.iload_n 3, 1) := by decide +kernel
theorem dL_drives_15 : decode cL_drives 15 = .ok (.iload_n 2, 1) := by decide +kernel
theorem dL_drives_16 : decode cL_drives 16 = .ok (.iadd, 1) := by decide +kernel
theorem dL_drives_17 : decode cL_drives 17 = .ok (.bipush 60, 2) := by decide +kernel
theorem dL_drives_19 : decode cL_drives 19 = .ok (.if_icmp .le 35, 3) := by decide +kernel
theorem dL_drives_22 : decode cL_drives 22 = .ok (.aload_n 0, 1) := by decide +kernel
theorem dL_drives_23 : decode cL_drives 23 = .ok (.iconst 4, 1) := by decide +kernel
theorem dL_drives_24 : decode cL_drives 24 = .ok (.iconst 0, 1) := by decide +kernel
theorem dL_drives_25 : decode cL_drives 25 = .ok (.iconst 0, 1) := by decide +kernel
theorem dL_drives_26 : decode cL_drives 26 = .ok (.iconst 0, 1) := by decide +kernel
theorem dL_drives_27 : decode cL_drives 27 = .ok (.invokestatic 176, 3) := by decide +kernel
theorem dL_drives_30 : decode cL_drives 30 = .ok (.ldc 18, 2) := by decide +kernel
theorem dL_drives_32 : decode cL_drives 32 = .ok (.if_icmp .ne 20, 3) := by decide +kernel
theorem dL_drives_35 : decode cL_drives 35 = .ok (.aload_n 1, 1) := by decide +kernel
theorem dL_drives_36 : decode cL_drives 36 = .ok (.iconst 4, 1) := by decide +kernel
theorem dL_drives_37 : decode cL_drives 37 = .ok (.iconst 0, 1) := by decide +kernel
theorem dL_drives_38 : decode cL_drives 38 = .ok (.iconst 0, 1) := by decide +kernel
theorem dL_drives_39 : decode cL_drives 39 = .ok (.iconst 0, 1) := by decide +kernel
theorem dL_drives_40 : decode cL_drives 40 = .ok (.invokestatic 176, 3) := by decide +kernel
theorem dL_drives_43 : decode cL_drives 43 = .ok (.ldc 18, 2) := by decide +kernel
theorem dL_drives_45 : decode cL_drives 45 = .ok (.if_icmp .ne 7, 3) := by decide +kernel
theorem dL_drives_48 : decode cL_drives 48 = .ok (.iconst 1, 1) := by decide +kernel
theorem dL_drives_49 : decode cL_drives 49 = .ok (.goto 4, 3) := by decide +kernel
theorem dL_drives_52 : decode cL_drives 52 = .ok (.iconst 0, 1) := by decide +kernel
theorem dL_drives_53 : decode cL_drives 53 = .ok (.ireturn, 1) := by decide +kernel
theorem dL_drives_54 : decode cL_drives 54 = .ok (.aload_n 0, 1) := by decide +kernel
theorem dL_drives_55 : decode cL_drives 55 = .ok (.bipush 17, 2) := by decide +kernel
theorem dL_drives_57 : decode cL_drives 57 = .ok (.iconst 0, 1) := by decide +kernel
theorem dL_drives_58 : decode cL_drives 58 = .ok (.iconst 0, 1) := by decide +kernel
theorem dL_drives_59 : decode cL_drives 59 = .ok (.iconst 0, 1) := by decide +kernel
theorem dL_drives_60 : decode cL_drives 60 = .ok (.invokestatic 176, 3) := by decide +kernel
theorem dL_drives_63 : decode cL_drives 63 = .ok (.istore 4, 2) := by decide +kernel
theorem dL_drives_65 : decode cL_drives 65 = .ok (.aload_n 0, 1) := by decide +kernel
theorem dL_drives_66 : decode cL_drives 66 = .ok (.bipush 18, 2) := by decide +kernel
theorem dL_drives_68 : decode cL_drives 68 = .ok (.iconst 0, 1) := by decide +kernel
theorem dL_drives_69 : decode cL_drives 69 = .ok (.iconst 0, 1) := by decide +kernel
theorem dL_drives_70 : decode cL_drives 70 = .ok (.iconst 0, 1) := by decide +kernel
theorem dL_drives_71 : decode cL_drives 71 = .ok (.invokestatic 176, 3) := by decide +kernel
theorem dL_drives_74 : decode cL_drives 74 = .ok (.istore 5, 2) := by decide +kernel
theorem dL_drives_76 : decode cL_drives 76 = .ok (.iload_n 2, 1) := by decide +kernel
theorem dL_drives_77 : decode cL_drives 77 = .ok (.ifCond .ne 25, 3) := by decide +kernel
theorem dL_drives_80 : decode cL_drives 80 = .ok (.iload 4, 2) := by decide +kernel
theorem dL_drives_82 : decode cL_drives 82 = .ok (.ldc 18, 2) := by decide +kernel
theorem dL_drives_84 : decode cL_drives 84 = .ok (.if_icmp .ne 14, 3) := by decide +kernel
theorem dL_drives_87 : decode cL_drives 87 = .ok (.iload 5, 2) := by decide +kernel
theorem dL_drives_89 : decode cL_drives 89 = .ok (.ldc 18, 2) := by decide +kernel
theorem dL_drives_91 : decode cL_drives 91 = .ok (.if_icmp .ne 7, 3) := by decide +kernel
theorem dL_drives_94 : decode cL_drives 94 = .ok (.iconst 1, 1) := by decide +kernel
theorem dL_drives_95 : decode cL_drives 95 = .ok (.goto 29, 3) := by decide +kernel
theorem dL_drives_98 : decode cL_drives 98 = .ok (.iconst 0, 1) := by decide +kernel
theorem dL_drives_99 : decode cL_drives 99 = .ok (.goto 25, 3) := by decide +kernel
theorem dL_drives_102 : decode cL_drives 102 = .ok (.aload_n 0, 1) := by decide +kernel
theorem dL_drives_103 : decode cL_drives 103 = .ok (.bipush 19, 2) := by decide +kernel
theorem dL_drives_105 : decode cL_drives 105 = .ok (.iload 4, 2) := by decide +kernel
theorem dL_drives_107 : decode cL_drives 107 = .ok (.iload 5, 2) := by decide +kernel
theorem dL_drives_109 : decode cL_drives 109 = .ok (.iconst 0, 1) := by decide +kernel
theorem dL_drives_110 : decode cL_drives 110 = .ok (.invokestatic 176, 3) := by decide +kernel
theorem dL_drives_113 : decode cL_drives 113 = .ok (.iload_n 2, 1) := by decide +kernel
theorem dL_drives_114 : decode cL_drives 114 = .ok (.iconst 1, 1) := by decide +kernel
theorem dL_drives_115 : decode cL_drives 115 = .ok (.isub, 1) := by decide +kernel
theorem dL_drives_116 : decode cL_drives 116 = .ok (.if_icmp .ne 7, 3) := by decide +kernel
theorem dL_drives_119 : decode cL_drives 119 = .ok (.iconst 1, 1) := by decide +kernel
theorem dL_drives_120 : decode cL_drives 120 = .ok (.goto 4, 3) := by decide +kernel
theorem dL_drives_123 : decode cL_drives 123 = .ok (.iconst 0, 1) := by decide +kernel
theorem dL_drives_124 : decode cL_drives 124 = .ok (.istore 6, 2) := by decide +kernel
theorem dL_drives_126 : decode cL_drives 126 = .ok (.iload 6, 2) := by decide +kernel
theorem dL_drives_128 : decode cL_drives 128 = .ok (.ifCond .eq 87, 3) := by decide +kernel
theorem dL_drives_131 : decode cL_drives 131 = .ok (.aload_n 0, 1) := by decide +kernel
theorem dL_drives_132 : decode cL_drives 132 = .ok (.iconst 4, 1) := by decide +kernel
theorem dL_drives_133 : decode cL_drives 133 = .ok (.iconst 0, 1) := by decide +kernel
theorem dL_drives_134 : decode cL_drives 134 = .ok (.iconst 0, 1) := by decide +kernel
theorem dL_drives_135 : decode cL_drives 135 = .ok (.iconst 0, 1) := by decide +kernel
theorem dL_drives_136 : decode cL_drives 136 = .ok (.invokestatic 176, 3) := by decide +kernel
theorem dL_drives_139 : decode cL_drives 139 = .ok (.iload_n 2, 1) := by decide +kernel
theorem dL_drives_140 : decode cL_drives 140 = .ok (.if_icmp .ne 75, 3) := by decide +kernel
theorem dL_drives_143 : decode cL_drives 143 = .ok (.aload_n 1, 1) := by decide +kernel
theorem dL_drives_144 : decode cL_drives 144 = .ok (.iconst 4, 1) := by decide +kernel
theorem dL_drives_145 : decode cL_drives 145 = .ok (.iconst 0, 1) := by decide +kernel
theorem dL_drives_146 : decode cL_drives 146 = .ok (.iconst 0, 1) := by decide +kernel
theorem dL_drives_147 : decode cL_drives 147 = .ok (.iconst 0, 1) := by decide +kernel
theorem dL_drives_148 : decode cL_drives 148 = .ok (.invokestatic 176, 3) := by decide +kernel
theorem dL_drives_151 : decode cL_drives 151 = .ok (.iload_n 2, 1) := by decide +kernel
theorem dL_drives_152 : decode cL_drives 152 = .ok (.if_icmp .ne 63, 3) := by decide +kernel
theorem dL_drives_155 : decode cL_drives 155 = .ok (.aload_n 0, 1) := by decide +kernel
theorem dL_drives_156 : decode cL_drives 156 = .ok (.invokevirtual 194, 3) := by decide +kernel
theorem dL_drives_159 : decode cL_drives 159 = .ok (.ifCond .eq 56, 3) := by decide +kernel
theorem dL_drives_162 : decode cL_drives 162 = .ok (.aload_n 0, 1) := by decide +kernel
theorem dL_drives_163 : decode cL_drives 163 = .ok (.invokevirtual 210, 3) := by decide +kernel
theorem dL_drives_166 : decode cL_drives 166 = .ok (.ifCond .ne 49, 3) := by decide +kernel
theorem dL_drives_169 : decode cL_drives 169 = .ok (.aload_n 0, 1) := by decide +kernel
theorem dL_drives_170 : decode cL_drives 170 = .ok (.invokevirtual 188, 3) := by decide +kernel
theorem dL_drives_173 : decode cL_drives 173 = .ok (.iload_n 3, 1) := by decide +kernel
theorem dL_drives_174 : decode cL_drives 174 = .ok (.iload_n 2, 1) := by decide +kernel
theorem dL_drives_175 : decode cL_drives 175 = .ok (.iadd, 1) := by decide +kernel
theorem dL_drives_176 : decode cL_drives 176 = .ok (.if_icmp .ne 39, 3) := by decide +kernel
theorem dL_drives_179 : decode cL_drives 179 = .ok (.iload_n 2, 1) := by decide +kernel
theorem dL_drives_180 : decode cL_drives 180 = .ok (.ifCond .eq 31, 3) := by decide +kernel
theorem dL_drives_183 : decode cL_drives 183 = .ok (.aload_n 0, 1) := by decide +kernel
theorem dL_drives_184 : decode cL_drives 184 = .ok (.bipush 14, 2) := by decide +kernel
theorem dL_drives_186 : decode cL_drives 186 = .ok (.iload_n 3, 1) := by decide +kernel
theorem dL_drives_187 : decode cL_drives 187 = .ok (.iconst 0, 1) := by decide +kernel
theorem dL_drives_188 : decode cL_drives 188 = .ok (.iconst 0, 1) := by decide +kernel
theorem dL_drives_189 : decode cL_drives 189 = .ok (.invokestatic 176, 3) := by decide +kernel
theorem dL_drives_192 : decode cL_drives 192 = .ok (.iload 4, 2) := by decide +kernel
theorem dL_drives_194 : decode cL_drives 194 = .ok (.if_icmp .ne 21, 3) := by decide +kernel
theorem dL_drives_197 : decode cL_drives 197 = .ok (.aload_n 0, 1) := by decide +kernel
theorem dL_drives_198 : decode cL_drives 198 = .ok (.bipush 15, 2) := by decide +kernel
theorem dL_drives_200 : decode cL_drives 200 = .ok (.iload_n 3, 1) := by decide +kernel
theorem dL_drives_201 : decode cL_drives 201 = .ok (.iconst 0, 1) := by decide +kernel
theorem dL_drives_202 : decode cL_drives 202 = .ok (.iconst 0, 1) := by decide +kernel
theorem dL_drives_203 : decode cL_drives 203 = .ok (.invokestatic 176, 3) := by decide +kernel
theorem dL_drives_206 : decode cL_drives 206 = .ok (.iload 5, 2) := by decide +kernel
theorem dL_drives_208 : decode cL_drives 208 = .ok (.if_icmp .ne 7, 3) := by decide +kernel
theorem dL_drives_211 : decode cL_drives 211 = .ok (.iconst 1, 1) := by decide +kernel
theorem dL_drives_212 : decode cL_drives 212 = .ok (.goto 4, 3) := by decide +kernel
theorem dL_drives_215 : decode cL_drives 215 = .ok (.iconst 0, 1) := by decide +kernel
theorem dL_drives_216 : decode cL_drives 216 = .ok (.istore 6, 2) := by decide +kernel
theorem dL_drives_218 : decode cL_drives 218 = .ok (.iload 6, 2) := by decide +kernel
theorem dL_drives_220 : decode cL_drives 220 = .ok (.ifCond .eq 32, 3) := by decide +kernel
theorem dL_drives_223 : decode cL_drives 223 = .ok (.aload_n 0, 1) := by decide +kernel
theorem dL_drives_224 : decode cL_drives 224 = .ok (.aload_n 1, 1) := by decide +kernel
theorem dL_drives_225 : decode cL_drives 225 = .ok (.iconst 1, 1) := by decide +kernel
theorem dL_drives_226 : decode cL_drives 226 = .ok (.invokestatic 284, 3) := by decide +kernel
theorem dL_drives_229 : decode cL_drives 229 = .ok (.ifCond .eq 23, 3) := by decide +kernel
theorem dL_drives_232 : decode cL_drives 232 = .ok (.aload_n 0, 1) := by decide +kernel
theorem dL_drives_233 : decode cL_drives 233 = .ok (.invokevirtual 188, 3) := by decide +kernel
theorem dL_drives_236 : decode cL_drives 236 = .ok (.iload_n 3, 1) := by decide +kernel
theorem dL_drives_237 : decode cL_drives 237 = .ok (.if_icmp .ne 15, 3) := by decide +kernel
theorem dL_drives_240 : decode cL_drives 240 = .ok (.aload_n 0, 1) := by decide +kernel
theorem dL_drives_241 : decode cL_drives 241 = .ok (.invokevirtual 210, 3) := by decide +kernel
theorem dL_drives_244 : decode cL_drives 244 = .ok (.iload_n 2, 1) := by decide +kernel
theorem dL_drives_245 : decode cL_drives 245 = .ok (.if_icmp .ne 7, 3) := by decide +kernel
theorem dL_drives_248 : decode cL_drives 248 = .ok (.iconst 1, 1) := by decide +kernel
theorem dL_drives_249 : decode cL_drives 249 = .ok (.goto 4, 3) := by decide +kernel
theorem dL_drives_252 : decode cL_drives 252 = .ok (.iconst 0, 1) := by decide +kernel
theorem dL_drives_253 : decode cL_drives 253 = .ok (.ireturn, 1) := by decide +kernel
end
section
section VXNS
variable {p : Program} {l : Launch} {e : Env} {R : Room} {s : State} {m : MethodId} {args : Array Value} {below : List Frame} {meth : Method} {c : Code} {H : Heap} {locs : List Loc} {cells slots : Nat}
variable {T : State}
theorem vx_callSN (X : Stand p l e R s m args below meth c T locs cells slots) (hexec : p.tables.exec = Jvm.exec) {own : String} {index : Nat} {host : String} {y : MethodName} {bytes : ByteArray} {maxL : Nat} {ret : Option FieldType}
    (hown : s.vm.findClass own = some m.cls) (hlink : (Cond.methodLinkNest own index y host).before args s = true) (hstat : (Cond.static y).before args s = true) (hinit : (Cond.initialized y.cls).before args s = true)
    (hcode : (Cond.code y bytes maxL ret).before args s = true) (hy : y.cls ≠ "java/lang/invoke/MethodHandle" ∧ y.cls ≠ "java/lang/invoke/VarHandle")
    {W : Nat} {Pre : Pt → Array Value → Prop} {Post : Pt → Array Value → Option Value → Pt → Prop} {PostX : Pt → Array Value → Addr → Pt → Prop} (hK : vx_Back l R p e below s args y 3 W Pre Post PostX)
    {g : JFrame} (hg : g.method = m) (hsize : g.locals.size = c.maxLocals) {argsL rest : List Value} (hlen : ∀ sig, parseMethodDescriptor y.desc = some sig → argsL.length = sig.parameters.length)
    (hstack : g.stack = argsL.reverse ++ rest) (hW : 2 * g.monitorRoom + (rest.map fun v => v.category).sum ≤ W) (hdg : decode c.code g.pc = .ok (.invokestatic index, 3))
    (hpre : ∀ vm₁, s.WarmedH vm₁ → Pre ⟨T.setVm vm₁, locs, cells, slots⟩ argsL.toArray) :
    (∃ (v : Option Value) (vm₁ : Vm) (B : Pt), s.WarmedH vm₁ ∧ Stand p l e R s m args below meth c B.U B.locs B.cells B.slots ∧ Post ⟨T.setVm vm₁, locs, cells, slots⟩ argsL.toArray v B ∧
      ∀ target, Steps p.tables e below (B.U.setTop { g with pc := g.pc + 3, stack := v.toList ++ rest }) target → Steps p.tables e below (T.setTop g) target) ∨
    (∃ (q : Addr) (vm₁ : Vm) (B : Pt), s.WarmedH vm₁ ∧ Stand p l e R s m args below meth c B.U B.locs B.cells B.slots ∧ PostX ⟨T.setVm vm₁, locs, cells, slots⟩ argsL.toArray q B ∧
      Steps p.tables e below (T.setTop g) ((B.U.setTop { g with stack := rest }).pushFrame (.throwing q))) := by
  obtain ⟨mk, hnamed⟩ := Cond.code_named hcode
  obtain ⟨methM, cM, hmethM, -, -, -, -, -, -, hsigM⟩ := Cond.code_spec hnamed hcode
  have hstatic : methM.isStatic = true := Cond.static_spec hnamed hmethM hstat
  obtain ⟨kP, hkP, -⟩ := className_of_methodNamed hnamed
  have hinitP : kP.init = .initialized := Cond.initialized_spec (findClass_of_methodNamed hnamed) hkP hinit
  obtain ⟨vm₁, X₁, hstep₁⟩ := X.invokestaticNest hexec hown hlink hnamed hmethM hstatic hkP hinitP hy (g := g) hg (argsL := argsL) (rest := rest) (hlen _ hsigM) hstack hdg
  rcases hK m meth c ⟨T.setVm vm₁, locs, cells, slots⟩ { g with stack := rest } (.invokestatic index) mk argsL.toArray X₁ hg hsize hdg hW (X₁.named hnamed) (hpre vm₁ X₁.warmed) with ⟨v, B, X', hpost, hsteps⟩ | ⟨q, B, X', hpost, hsteps⟩
  · exact Or.inl ⟨v, vm₁, B, X₁.warmed, X', hpost, fun target h => hstep₁ _ fun acts => by rw [doInvoke_state]; exact hsteps.trans h⟩
  · exact Or.inr ⟨q, vm₁, B, X₁.warmed, X', hpost, hstep₁ _ fun acts => by rw [doInvoke_state]; exact hsteps⟩
theorem vx_runSN {y : MethodName} {bytes cc : ByteArray} {maxL nL mc ms n index : Nat} {ret : Option FieldType} {ws : List Cond} {rm : Room} {Pc : Array Value → State → Prop} {Qc : Array Value → State → Outcome → State → Prop} {XC : String → State → State → Prop} {free : Addr → Prop} {Ts : List Cond} {own host : String} {As rest : List Value} {g : JFrame}
    (S : CallFix p m c cc nL s args Ts own) (hM : vx_Met l y ws rm Pc Qc XC mc ms free) (cw : va_CN R s args own index y host bytes maxL ret ws rm mc ms n ∧ (Cond.static y).before args s = true ∧ True) (hp : PreS s H Pc As)
    (hg : g.method = m) (hn : As.length = n) (hsize : g.locals.size = nL) (hstack : g.stack = As.reverse ++ rest) (hW : 2 * g.monitorRoom + (rest.map fun v => v.category).sum ≤ 8) (hdg : decode cc g.pc = .ok (.invokestatic index, 3)) (hf : cells + mc ≤ R.cells ∧ slots + ms ≤ R.slots) :
    vx_Run p l e R s m args below meth c H locs cells slots mc ms g rest (Qc As.toArray) XC free := by
  obtain ⟨⟨⟨hrc, hrs, hfr, hlo, hws, hcw⟩, hcode, hini, hy, hlen, hl⟩, hx1, hx2⟩ := cw
  have hK : vx_Back l R p e below s args y 3 8 (PreOf R mc ms Pc) (PostOf Qc mc ms free) (vx_Post XC mc ms free) := vx_back (bytes := bytes) (maxL := maxL) (ret := ret) hM hp.1 hrc hrs hfr hlo hws hcw (fun a' U hW => word_at hW (Or.inl (by first | rfl | simp [Cond.onTables, Cond.keeps, Cond.steady])) hini)
  obtain ⟨hx, hb, hml, ho, -⟩ := S
  have hPc := hp.2
  intro T hT X
  rcases vx_callSN X hx (bytes := bytes) (maxL := maxL) (ret := ret) ho hl hx1 hini hcode hy hK hg (hsize.trans hml.symm) (argsL := As) (rest := rest) (fun sig h => hn.trans (hlen sig h)) hstack hW (by rw [hb]; exact hdg)
    (fun vm₁ hW₁ => ⟨hf.1, hf.2, hPc (T.setVm vm₁) hT hW₁⟩) with ⟨v, vm₁, ⟨U', l2, c2, s2⟩, hW₁, X', ⟨g', mk, t, L, e1, e2, hq, h1, hL, h2, h3⟩, st⟩ | ⟨q, vm₁, ⟨U', l2, c2, s2⟩, hW₁, X', ⟨g', mk, t, L, E, ce, e1, e2, hq, hce, hcv, hcl, h1, hL, h2, h3⟩, st⟩
  · dsimp only [Pt.U, Pt.locs, Pt.cells, Pt.slots] at X' e1 e2 h1 h2 h3 st
    subst h1; subst h2; subst h3
    exact Or.inl ⟨v, (T.setVm vm₁).calling g' mk As.toArray, t, U', L, hT, X', hL, e1, e2, hq, st⟩
  · dsimp only [Pt.U, Pt.locs, Pt.cells, Pt.slots] at X' e1 e2 h1 h2 h3 st hcl
    subst h1; subst h2; subst h3
    exact Or.inr ⟨q, (T.setVm vm₁).calling g' mk As.toArray, t, U', L, E, ce, hT, X', hL, e1, e2, hq, hce, hcv, vx_cls hW₁ hcl, st⟩
end VXNS
end
section
/-! ===== J: a judgement over the machine with the whole world in one value. Words, world, context ===== -/
/-- words that stay true when the tables grow warmer -/
def stW (w : Cond) : Bool := match w with
  | .castable _ _ => true
  | .methodLinkNest _ _ _ _ => true
  | .declares _ => true
  | w => goodWord w
theorem stW_warm {w : Cond} (hw : stW w = true) {args a' : Array Value} {s U : State} (hW : s.WarmedH U.vm) (h : w.before args s = true) : w.before a' U = true := by
  unfold stW at hw
  split at hw
  · exact va_Nw.use rfl (va_Nw.warmC hW (va_Nw.of rfl h))
  · exact va_Nw.use rfl (va_Nw.warmM hW (va_Nw.of rfl h))
  · exact va_Nw.use rfl (va_Nw.warmD hW (va_Nw.of rfl h))
  · exact word_at hW (good_of_word hw) h
/-- the one list of words -/
def SWL : List Cond := lw_tbl.filter stW
theorem SWL_mem (i : Nat) {w : Cond} (h : lw_tbl[i]? = some w) (hs : stW w = true) : w ∈ SWL := List.mem_filter.mpr ⟨List.mem_of_getElem? h, hs⟩
theorem SWL_warm {args : Array Value} {s : State} (h : ∀ w ∈ SWL, w.before args s = true) : ∀ w ∈ SWL, ∀ (a' : Array Value) (U : State), s.WarmedH U.vm → w.before a' U = true :=
  fun w hw _ _ hW => stW_warm (List.mem_filter.mp hw).2 hW (h w hw)
/-- the world: ints by cell and place, longs by cell and place, the saved parks' cells by place -/
abbrev Wd : Type := (Nat → Nat → Int32) × (Nat → Nat → Int64) × (Nat → Nat)
/-- where it lies: its first address, classes and slots, the array classes (0 int, 1 Park), the top, two that are free -/
abbrev En : Type := Nat × va_G × (Nat → ClassId) × Nat × Nat × (Nat → Int32)
def upI (M : Wd) (c k : Nat) (v : Int32) : Wd := (fun a => if a = c then upd (M.1 a) k v else M.1 a, M.2.1, M.2.2)
def upR (M : Wd) (c : Nat) (f : Nat → Int32) : Wd := (fun a => if a = c then f else M.1 a, M.2.1, M.2.2)
def upL (M : Wd) (c k : Nat) (v : Int64) : Wd := (M.1, fun a => if a = c then vp_updL (M.2.1 a) k v else M.2.1 a, M.2.2)
def upP (M : Wd) (k : Nat) (v : Nat) : Wd := (M.1, M.2.1, fun j => if j = k then v else M.2.2 j)
/-- a cell's address: 0 to 52 the world's cells, 64 + a the address a -/
def adr (E : En) (i : Nat) : Nat := if i < 53 then E.1 + i else i - 64
theorem adr_lt {E : En} {i : Nat} (h : i < 53) : adr E i = E.1 + i := if_pos h
def cv (E : En) (v : Value) : Value := match v with
  | .ref i => .ref (adr E i)
  | w => w
theorem cv_cat (E : En) (v : Value) : (cv E v).category = v.category := by cases v <;> rfl
def isPk (i : Nat) : Bool := i == 1 || i == 7 || i == 14 || i == 20 || i == 26 || i == 32 || i == 38
/-- int arrays' lengths -/
def alen (i : Nat) : Nat := ([0, 0, 6, 6, 6, 60, 60, 0, 6, 6, 6, 60, 60, 0, 0, 6, 6, 6, 60, 60, 0, 6, 6, 6, 60, 60, 0, 6, 6, 6, 60, 60, 0, 6, 6, 6, 60, 60, 0, 6, 6, 6, 60, 60, 0, 6, 4096, 4096, 4096, 16384, 4, 0, 60] : List Nat).getD i 0
/-- what a cell holds -/
def jcR (E : En) (i : Nat) (r : Nat → Int32) (lr : Nat → Int64) (pr : Nat → Nat) : va_E :=
  if i = 0 then .inr (3, [.ref (adr E 1), .ref (adr E 7), .ref (adr E 13), .ref (adr E 44), .ref (adr E 51), .int (r 5), .int (r 6)])
  else if i = 44 then .inr (0, [.ref (adr E 45), .ref (adr E 46), .ref (adr E 47), .ref (adr E 48), .ref (adr E 49), .ref (adr E 50), .int (r 6), .int (r 7), .int (r 8), .int (r 9), .int (r 10), .int (r 11)])
  else if i = 51 then .inr (2, [.ref (adr E 52), .int (r 1)])
  else if isPk i = true then .inr (1, [.ref (adr E (i + 1)), .ref (adr E (i + 2)), .ref (adr E (i + 3)), .ref (adr E (i + 4)), .ref (adr E (i + 5)), .int (r 5), .int (r 6), .int (r 7), .int (r 8), .int (r 9)])
  else if i = 13 then .inl (E.2.2.1 1, 5, .inr (.inr (.inr (.inr (fun j => some (adr E (pr j)))))))
  else .inl (E.2.2.1 0, alen i, .inl r)
def jc (E : En) (M : Wd) (i : Nat) : va_E := jcR E i (M.1 i) (M.2.1 i) M.2.2
def mk (E : En) (M : Wd) : va_W := (List.range 53).map (fun i => (adr E i, jc E M i))
theorem mk_get {E : En} {M : Wd} {i : Nat} (hi : i < 53) : (mk E M)[i]? = some (adr E i, jc E M i) := by
  simp [mk, List.getElem?_range hi]
theorem mk_at {E : En} {M : Wd} {i : Nat} {q : Nat × va_E} (h : (mk E M)[i]? = some q) : i < 53 ∧ q = (adr E i, jc E M i) := by
  have hi : i < 53 := by
    have := (List.getElem?_eq_some_iff.mp h).1
    simpa [mk] using this
  exact ⟨hi, Option.some.inj (h.symm.trans (mk_get hi))⟩
theorem mk_len {E : En} {M : Wd} : (mk E M).length = 53 := by simp [mk]
theorem mk_set {E : En} {M M' : Wd} {c : Nat} {e : va_E} (hc : c < 53) (he : jc E M' c = e) (h : ∀ i, i ≠ c → jc E M' i = jc E M i) : (mk E M).set c (adr E c, e) = mk E M' := by
  apply List.ext_getElem?
  intro i
  by_cases hi : i < 53
  · by_cases hic : i = c
    · subst hic
      rw [List.getElem?_set_self (by rw [mk_len]; exact hi), mk_get hi, he]
    · rw [List.getElem?_set_ne (fun q => hic q.symm), mk_get hi, mk_get hi, h i hic]
  · rw [List.getElem?_eq_none (by rw [List.length_set, mk_len]; omega), List.getElem?_eq_none (by rw [mk_len]; omega)]
/-- what may change: the world's own cells, and all from the top on (E.2.2.2.1; 0: all from the world's begin on) -/
def Ar (E : En) : Nat → Prop := fun q => E.1 ≤ q ∧ (q < E.1 + 53 ∨ E.2.2.2.1 ≤ q)
theorem mk_D {E : En} {M : Wd} : va_D (Ar E) (mk E M) := by
  refine ⟨fun i j p q hi hj h => ?_, fun k q hk => ?_⟩
  · obtain ⟨h1, rfl⟩ := mk_at hi
    obtain ⟨h2, rfl⟩ := mk_at hj
    have h3 : adr E i = adr E j := h
    rw [adr_lt h1, adr_lt h2] at h3
    omega
  · obtain ⟨h1, rfl⟩ := mk_at hk
    show E.1 ≤ adr E k ∧ (adr E k < E.1 + 53 ∨ E.2.2.2.1 ≤ adr E k)
    rw [adr_lt h1]
    omega
theorem jc_ne_I {E : En} {M : Wd} {c k : Nat} {v : Int32} : ∀ i, i ≠ c → jc E (upI M c k v) i = jc E M i := by
  intro i hi
  simp only [jc, upI, if_neg hi]
theorem jc_ne_R {E : En} {M : Wd} {c : Nat} {f : Nat → Int32} : ∀ i, i ≠ c → jc E (upR M c f) i = jc E M i := by
  intro i hi
  simp only [jc, upR, if_neg hi]
theorem jc_ne_L {E : En} {M : Wd} {c k : Nat} {v : Int64} : ∀ i, i ≠ c → jc E (upL M c k v) i = jc E M i := by
  intro i hi
  simp only [jc, upL, if_neg hi]
theorem jc_ne_P {E : En} {M : Wd} {k : Nat} {v : Nat} : ∀ i, i ≠ 13 → jc E (upP M k v) i = jc E M i := by
  intro i hi
  simp only [jc, upP, jcR, if_neg hi]
abbrev tysE (E : En) : List (ClassId × FieldType) := [(E.2.2.1 0, FieldType.int), (E.2.2.1 1, FieldType.object "CarTangos$Park")]
/-- the texts of the exceptions -/
def strL : List (String × Nat × String) := [("CarTangos", 313, "there is no such lane, cell or car"), ("CarTangos", 315, "an argument is out of range"), ("CarTangos", 317, "the park does not allow it"), ("CarTangos", 64, "there is no car"), ("CarTangos", 88, "the log is full"), ("CarTangos", 93, "the log is empty"), ("CarTangos", 101, "there is no plan that the log has room for"), ("CarTangos", 108, "no such character code"), ("CarTangos", 114, "the buffer is full"), ("CarTangos", 129, "the buffer is not complete works"), ("CarTangos", 143, "the latest work did not stop"), ("CarTangos", 145, "there is no saved state"), ("CarTangos", 151, "there is no snapshot"), ("CarTangos", 166, "there is no such car"), ("CarTangos", 182, "there is no such cell"), ("CarTangos", 202, "there is no such slide"), ("CarTangos", 240, "there is no next slide"), ("CarTangos", 269, "there are fewer than 2 cars"), ("CarTangos", 275, "a car or a wall is on the cell")]
/-- classes of exceptions that aren't castable to others -/
def ncL : List (String × String) := [("java/lang/IllegalArgumentException", "java/lang/IndexOutOfBoundsException"), ("java/lang/IllegalStateException", "java/lang/IndexOutOfBoundsException"), ("java/lang/IllegalStateException", "java/lang/IllegalArgumentException")]
/-- what stays: classes, the two statics of Throwable, texts -/
def Sx (E : En) (U : State) : Prop := va_K E.2.1 vwCl (tysE E) U ∧ vx_Zq Bundle.tN "UNASSIGNED_STACK" Bundle.steD (Ar E) U U.heap ∧ vx_Zq Bundle.tN "SUPPRESSED_SENTINEL" Bundle.listD (Ar E) U U.heap ∧ (∀ t ∈ strL, ∃ a, vk_R t.1 t.2.1 t.2.2 a U) ∧ ∀ t ∈ ncL, va_Nc t.1 t.2 U
def Rl (E : En) (M : Wd) (U : State) : Prop := va_P E.2.1 vwCl (mk E M) U.heap ∧ Sx E U
theorem Sx.to {E : En} {s U : State} {H : Heap} {locs : List Loc} {A : Nat → Prop} (hA : ∀ q, q < s.heap.size → A q → Ar E q) (h : Sx E s) (hS : va_S A s.heap H locs) (hU : U.heap = H) (hW : s.WarmedH U.vm) : Sx E U := by
  obtain ⟨h1, h2, h3, h4, h8⟩ := h
  subst hU
  have hK : ∀ a : Nat, a < s.heap.size → ¬ Ar E a → U.heap[a]? = s.heap[a]? := fun a ha hn => hS.2.1 a ha (fun q => hn (hA a ha q))
  refine ⟨va_K.moved hW.alike h1, vx_Zq.moved hW.alike (h2.kept hK), vx_Zq.moved hW.alike (h3.kept hK), fun t ht => ?_, fun t ht => va_Nc.moved hW.alike (h8 t ht)⟩
  obtain ⟨a, ha⟩ := h4 t ht
  exact ⟨a, vk_R.warm hW ha⟩
theorem Sx.calling {E : En} {U : State} (h : Sx E U) (g : JFrame) (mk' : MethodId) (a : Array Value) : Sx E (U.calling g mk' a) := by
  obtain ⟨h1, h2, h3, h4, h8⟩ := h
  have hA : U.vm.Alike (U.calling g mk' a).vm := Vm.Alike.refl U.vm
  refine ⟨va_K.moved hA h1, vx_Zq.moved hA h2, vx_Zq.moved hA h3, fun t ht => ?_, fun t ht => va_Nc.moved hA (h8 t ht)⟩
  obtain ⟨b, hb⟩ := h4 t ht
  exact ⟨b, vk_R.same rfl hb⟩
end
section
/-! ===== J: the judgement, contracts, entry, ends ===== -/
/-- a method: name, code, locals, answer; room: frames, locals' words, cells, slots; its table of handlers -/
abbrev MI : Type := MethodName × ByteArray × Nat × Option FieldType × Nat × Nat × Nat × Nat × List (Nat × Nat × Nat × Nat)
abbrev Kx : Type := Program × Launch × Env × Room × State × MethodId × Array Value × List Frame × Method × Code
abbrev rmf (f : MI) : Room := { frames := f.2.2.2.2.1, cells := f.2.2.2.2.2.2.1, slots := f.2.2.2.2.2.2.2.1, locals := f.2.2.2.2.2.1 }
def cdw (f : MI) : Cond := match f.2.2.2.2.2.2.2.2 with
  | [] => Cond.code f.1 f.2.1 f.2.2.1 f.2.2.2.1
  | hh => Cond.codeWith f.1 f.2.1 f.2.2.1 f.2.2.2.1 hh
abbrev wsf (f : MI) : List Cond := cdw f :: SWL
abbrev kS (κ : Kx) : State := κ.2.2.2.2.1
abbrev kA (κ : Kx) : Array Value := κ.2.2.2.2.2.2.1
/-- the context of a method's walk -/
def Cx (κ : Kx) (E : En) (f : MI) : Prop :=
  κ.1.tables.exec = Jvm.exec ∧ κ.2.2.2.2.2.2.2.2.2.code = f.2.1 ∧ κ.2.2.2.2.2.2.2.2.2.maxLocals = f.2.2.1 ∧ κ.2.2.2.2.2.2.2.2.1.sig.returnType = f.2.2.2.1 ∧ κ.2.2.2.2.1.vm.findClass f.1.cls = some κ.2.2.2.2.2.1.cls ∧
  (∀ w ∈ SWL, w.before κ.2.2.2.2.2.2.1 κ.2.2.2.2.1 = true) ∧ κ.2.2.2.2.2.2.2.2.1.locks = false ∧ κ.2.2.2.1 = rmf f ∧ Sx E κ.2.2.2.2.1 ∧ κ.2.1.stackTraces = false ∧ f.1.name = κ.2.2.2.2.2.2.2.2.1.name ∧ κ.2.2.2.2.2.2.2.2.2.exceptionTable.toList = tableOf f.2.2.2.2.2.2.2.2
abbrev lvm (E : En) (L : List (Nat × Value)) : List (Nat × Value) := L.map (fun q => (q.1, cv E q.2))
abbrev cvs (E : En) (st : List Value) : List Value := st.map (cv E)
def kW (κ : Kx) (H : Heap) (locs : List Loc) (k n : Nat) (Q : State → Prop) (g : JFrame) : Prop :=
  W κ.1 κ.2.1 κ.2.2.1 κ.2.2.2.1 κ.2.2.2.2.1 κ.2.2.2.2.2.1 κ.2.2.2.2.2.2.1 κ.2.2.2.2.2.2.2.1 κ.2.2.2.2.2.2.2.2.1 κ.2.2.2.2.2.2.2.2.2 H locs k n Q g
def J (κ : Kx) (E : En) (f : MI) (Q : State → Prop) (k n : Nat) (L : List (Nat × Value)) (M : Wd) (pc : Nat) (st : List Value) : Prop :=
  Cx κ E f → ∀ (H : Heap) (locs : List Loc) (ls : Array Slot), va_P E.2.1 vwCl (mk E M) H → va_S (Ar E) κ.2.2.2.2.1.heap H locs → lv_has ls f.2.2.1 (lvm E L) →
    kW κ H locs k n Q (F0 κ.2.2.2.2.2.1 pc ls (cvs E st))
/-- an outcome: a value (or none) is returned, or an exception of a class is thrown -/
abbrev Oc : Type := Option Value ⊕ String
def isB (x : Int32) : Prop := x = 0 ∨ x = 1
def okB (ret : Option FieldType) (v : Option Value) : Prop := ret = some .boolean → ∃ x : Int32, v = some (.int x) ∧ isB x
def QV (E : En) (f : MI) (o : Oc) (M' : Wd) : Array Value → State → Outcome → State → Prop := fun _ st oc t =>
  ∃ v : Option Value, o = .inl v ∧ oc = .returned (v.map (cv E)) ∧ okB f.2.2.2.1 v ∧ va_P E.2.1 vwCl (mk E M') t.heap ∧ va_F (Ar E) st t
def XV (E : En) (o : Oc) (M' : Wd) : String → State → State → Prop := fun X st t => o = .inr X ∧ va_P E.2.1 vwCl (mk E M') t.heap ∧ va_F (Ar E) st t
def Con (E : En) (f : MI) (av : List Value) (M : Wd) (o : Oc) (M' : Wd) : Prop :=
  ∀ l : Launch, l.stackTraces = false → vx_Met l f.1 (wsf f) (rmf f) (va_Pc (cvs E av) (Rl E M)) (QV E f o M') (XV E o M') f.2.2.2.2.2.2.1 f.2.2.2.2.2.2.2.1 (Ar E)
/-- what a walk of f owes at its end -/
abbrev Qm (κ : Kx) (E : En) (f : MI) (o : Oc) (M' : Wd) : State → Prop := vx_MQ κ.2.2.2.2.2.2.2.1 (QV E f o M') (XV E o M') κ.2.2.2.2.2.2.1 κ.2.2.2.2.1 f.2.2.2.2.2.2.1 f.2.2.2.2.2.2.2.1 (Ar E)
theorem lvm_args (E : En) : ∀ (av : List Value) (i : Nat), lv_args i (cvs E av) = lvm E (lv_args i av)
  | [], _ => rfl
  | v :: av, i => by
    have h := lvm_args E av
    cases v <;> simp only [cvs, lvm, List.map_cons, lv_args, cv, Value.category] at h ⊢ <;> first | (rw [h]; rfl) | simp [h]
theorem lg_cvs (E : En) (av : List Value) : (lg_sl (cvs E av)).length = (lg_sl av).length := by
  induction av with
  | nil => rfl
  | cons v av ih =>
    have ih' : (List.flatMap (fun v : Value => if v.category = 2 then [Slot.val v, Slot.second] else [Slot.val v]) (List.map (cv E) av)).length = (List.flatMap (fun v : Value => if v.category = 2 then [Slot.val v, Slot.second] else [Slot.val v]) av).length := ih
    simp only [lg_sl, cvs, List.map_cons, List.flatMap_cons, List.length_append, cv_cat, ih']
    by_cases hc : v.category = 2
    · simp [hc]
    · simp [hc]
/-- a contract out of a walk from the entry -/
theorem Con.of {E : En} {f : MI} {av : List Value} {M : Wd} {o : Oc} {M' : Wd} (hy : plainName f.1.cls = true) (hh0 : f.2.2.2.2.2.2.2.2 = []) (hlen : (lg_sl av).length ≤ f.2.2.1)
    (body : ∀ κ : Kx, J κ E f (Qm κ E f o M') 0 0 (lv_args 0 av) M 0 []) : Con E f av M o M' := by
  intro l hl
  have hcd : wsf f = Cond.code f.1 f.2.1 f.2.2.1 f.2.2.2.1 :: SWL := by simp only [wsf, cdw, hh0]
  refine vx_ofW (cc := f.2.1) (maxL := f.2.2.1) (ret := f.2.2.2.1) hy hcd ?_
  intro p e s m args below meth c s₁ B hml het hv
  obtain ⟨rfl, hP, hX⟩ := hv
  have hts : ∀ w ∈ SWL, w.before (cvs E av).toArray s = true := fun w h => atoms_spec (ws := wsf f) B.pre w (List.mem_cons_of_mem _ h)
  have hown : s.vm.findClass f.1.cls = some m.cls := findClass_of_methodNamed B.named
  have hnm : f.1.name = meth.name := (name_of_methodNamed B.named B.method).1.symm
  have hlc : (lg_sl (cvs E av)).length ≤ f.2.2.1 := by rw [lg_cvs]; exact hlen
  have hl0 := lv_entry (cvs E av) (n := f.2.2.1) hlc
  rw [lvm_args] at hl0
  rw [lg_entry_eq]
  exact body (p, l, e, (headSpec (wsf f) (rmf f)).room, s, m, (cvs E av).toArray, below, meth, c) ⟨B.exec, B.bytes, hml, B.returns, hown, hts, B.notSynchronized, rfl, hX, hl, hnm, by rw [hh0]; exact List.eq_nil_iff_forall_not_mem.mpr fun x hx => het x hx⟩ s.heap [] _ hP va_S.rf hl0
/-- the same of a method with handlers -/
theorem Con.ofH {E : En} {f : MI} {av : List Value} {M : Wd} {o : Oc} {M' : Wd} (hy : plainName f.1.cls = true) (hh0 : cdw f = Cond.codeWith f.1 f.2.1 f.2.2.1 f.2.2.2.1 f.2.2.2.2.2.2.2.2) (hlen : (lg_sl av).length ≤ f.2.2.1)
    (body : ∀ κ : Kx, J κ E f (Qm κ E f o M') 0 0 (lv_args 0 av) M 0 []) : Con E f av M o M' := by
  intro l hl
  have hcd : wsf f = Cond.codeWith f.1 f.2.1 f.2.2.1 f.2.2.2.1 f.2.2.2.2.2.2.2.2 :: SWL := by simp only [wsf, hh0]
  refine vx_ofWH (cc := f.2.1) (maxL := f.2.2.1) (ret := f.2.2.2.1) hy hcd ?_
  intro p e s m args below meth c s₁ B hml hv
  obtain ⟨rfl, hP, hX⟩ := hv
  have hts : ∀ w ∈ SWL, w.before (cvs E av).toArray s = true := fun w h => atoms_spec (ws := wsf f) B.pre w (List.mem_cons_of_mem _ h)
  have hcw : (Cond.codeWith f.1 f.2.1 f.2.2.1 f.2.2.2.1 f.2.2.2.2.2.2.2.2).before (cvs E av).toArray s = true := by rw [← hh0]; exact atoms_spec (ws := wsf f) B.pre _ List.mem_cons_self
  have hown : s.vm.findClass f.1.cls = some m.cls := findClass_of_methodNamed B.named
  have hnm : f.1.name = meth.name := (name_of_methodNamed B.named B.method).1.symm
  have hlc : (lg_sl (cvs E av)).length ≤ f.2.2.1 := by rw [lg_cvs]; exact hlen
  have hl0 := lv_entry (cvs E av) (n := f.2.2.1) hlc
  rw [lvm_args] at hl0
  rw [lg_entry_eq]
  exact body (p, l, e, (headSpec (wsf f) (rmf f)).room, s, m, (cvs E av).toArray, below, meth, c) ⟨B.exec, B.bytes, hml, B.returns, hown, hts, B.notSynchronized, rfl, hX, hl, hnm, vx_table (x := f.1) B hcw⟩ s.heap [] _ hP va_S.rf hl0
section JR
variable {κ : Kx} {E : En} {f : MI} {Q : State → Prop} {k n : Nat} {L : List (Nat × Value)} {M : Wd} {pc : Nat} {st : List Value}
/-- more words: fewer or other order of the locals listed -/
theorem J_sub {L' : List (Nat × Value)} (ks : List Nat) (hL : lv_pick L ks = L') (kk : J κ E f Q k n L' M pc st) : J κ E f Q k n L M pc st := by
  intro hC H locs ls hP hS hl
  refine kk hC H locs ls hP hS (lv_sub hl ks ?_)
  rw [← hL]
  simp only [lv_pick, lvm, List.map_filterMap, List.getElem?_map]
theorem J_eq {L' : List (Nat × Value)} {M' : Wd} {st' : List Value} {k' n' : Nat} (h1 : L = L') (h2 : M = M') (h3 : st = st') (hk : k = k') (hn : n = n') (kk : J κ E f Q k' n' L' M' pc st') : J κ E f Q k n L M pc st := by
  subst h1; subst h2; subst h3; subst hk; subst hn; exact kk
theorem J_wide {k' n' : Nat} (h1 : k ≤ k') (h2 : n ≤ n') (kk : J κ E f Q k' n' L M pc st) : J κ E f Q k n L M pc st := by
  intro hC H locs ls hP hS hl
  exact W.widen h1 h2 (kk hC H locs ls hP hS hl)
theorem J_end {o : Oc} {M' : Wd} {v : Option Value} (ho : o = .inl v) (hM : M = M') (hb : okB f.2.2.2.1 v)
    (row : ∀ {hq : ∀ (t : State), True}, Cx κ E f → ∀ (H : Heap) (locs : List Loc) (ls : Array Slot), (∀ t : State, t.heap = H → κ.2.2.2.2.1.WarmedH t.vm → QV E f o M' κ.2.2.2.2.2.2.1 κ.2.2.2.2.1 (.returned (v.map (cv E))) t) → (∀ q ∈ locs, Ar E q.base) →
      kW κ H locs k n (MQ κ.2.2.2.2.2.2.2.1 (QV E f o M') κ.2.2.2.2.2.2.1 κ.2.2.2.2.1 k n (Ar E)) (F0 κ.2.2.2.2.2.1 pc ls (cvs E st)))
    (hk : k = f.2.2.2.2.2.2.1) (hn : n = f.2.2.2.2.2.2.2.1) : J κ E f (Qm κ E f o M') k n L M pc st := by
  subst ho; subst hM; subst hk; subst hn
  intro hC H locs ls hP hS hl
  refine vx_ret (row (hq := fun _ => trivial) hC H locs ls (fun t ht _ => ⟨v, rfl, rfl, hb, by rw [ht]; exact hP, hS.F ht⟩) hS.2.2)
theorem J_ireturn {o : Oc} {M' : Wd} {x : Int32} (hd : decode f.2.1 pc = .ok (.ireturn, 1)) (hr : f.2.2.2.1 = some .int) (ho : o = .inl (some (.int x))) (hM : M = M') (hk : k = f.2.2.2.2.2.2.1) (hn : n = f.2.2.2.2.2.2.2.1) : J κ E f (Qm κ E f o M') k n L M pc [.int x] :=
  J_end ho hM (fun h => by rw [hr] at h; cases h) (fun hC H locs ls hq hf => W.iret (v := x) hC.1 hC.2.1 (by rw [hC.2.2.2.1, hr]) hq hf hd (hlocks := hC.2.2.2.2.2.2.1)) hk hn
theorem J_zreturn {o : Oc} {M' : Wd} {x : Int32} (hd : decode f.2.1 pc = .ok (.ireturn, 1)) (hr : f.2.2.2.1 = some .boolean) (hb : isB x) (ho : o = .inl (some (.int x))) (hM : M = M') (hk : k = f.2.2.2.2.2.2.1) (hn : n = f.2.2.2.2.2.2.2.1) : J κ E f (Qm κ E f o M') k n L M pc [.int x] :=
  J_end ho hM (fun _ => ⟨x, rfl, hb⟩) (fun hC H locs ls hq hf => W.zret (v := x) (ty := .boolean) hC.1 hC.2.1 (by rw [hC.2.2.2.1, hr]) (by rcases hb with h | h <;> rw [h] <;> rfl) hq hf hd (hlocks := hC.2.2.2.2.2.2.1)) hk hn
theorem J_lreturn {o : Oc} {M' : Wd} {x : Int64} (hd : decode f.2.1 pc = .ok (.lreturn, 1)) (hr : f.2.2.2.1 = some .long) (ho : o = .inl (some (.long x))) (hM : M = M') (hk : k = f.2.2.2.2.2.2.1) (hn : n = f.2.2.2.2.2.2.2.1) : J κ E f (Qm κ E f o M') k n L M pc [.long x] :=
  J_end ho hM (fun h => by rw [hr] at h; cases h) (fun hC H locs ls hq hf => W.lret (v := x) hC.1 hC.2.1 (by rw [hC.2.2.2.1, hr]) hq hf hd (hlocks := hC.2.2.2.2.2.2.1)) hk hn
theorem J_dreturn {o : Oc} {M' : Wd} {x : UInt64} (hd : decode f.2.1 pc = .ok (.dreturn, 1)) (hr : f.2.2.2.1 = some .double) (ho : o = .inl (some (.double x))) (hM : M = M') (hk : k = f.2.2.2.2.2.2.1) (hn : n = f.2.2.2.2.2.2.2.1) : J κ E f (Qm κ E f o M') k n L M pc [.double x] :=
  J_end ho hM (fun h => by rw [hr] at h; cases h) (fun hC H locs ls hq hf => W.dret (v := x) hC.1 hC.2.1 (by rw [hC.2.2.2.1, hr]) hq hf hd (hlocks := hC.2.2.2.2.2.2.1)) hk hn
theorem J_return {o : Oc} {M' : Wd} (hd : decode f.2.1 pc = .ok (.return_, 1)) (hr : f.2.2.2.1 = none) (ho : o = .inl none) (hM : M = M') (hk : k = f.2.2.2.2.2.2.1) (hn : n = f.2.2.2.2.2.2.2.1) : J κ E f (Qm κ E f o M') k n L M pc [] :=
  J_end ho hM (fun h => by rw [hr] at h; cases h) (fun hC H locs ls hq hf => W.vret hC.1 hC.2.1 (by rw [hC.2.2.2.1, hr]) hq hf hd (hlocks := hC.2.2.2.2.2.2.1)) hk hn
end JR
end
section
/-! ===== J: rows of single instructions ===== -/
section JI
variable {κ : Kx} {E : En} {f : MI} {Q : State → Prop} {k n : Nat} {L L' : List (Nat × Value)} {M : Wd} {pc : Nat} {st : List Value}
theorem J_iconst {q : Int} {v : Int32} (hd : decode f.2.1 pc = .ok (.iconst q, 1)) (hv : Int32.ofInt q = v) (kk : J κ E f Q k n L M (pc + 1) (.int v :: st)) : J κ E f Q k n L M pc st := fun hC H locs ls hP hS hl => lv_iconst hC.1 hC.2.1 hd hv (kk hC H locs ls hP hS hl)
theorem J_bipush {q : Int} {v : Int32} (hd : decode f.2.1 pc = .ok (.bipush q, 2)) (hv : (Int8.ofInt q).toInt32 = v) (kk : J κ E f Q k n L M (pc + 2) (.int v :: st)) : J κ E f Q k n L M pc st := fun hC H locs ls hP hS hl => lv_bipush hC.1 hC.2.1 hd hv (kk hC H locs ls hP hS hl)
theorem J_sipush {q : Int} {v : Int32} (hd : decode f.2.1 pc = .ok (.sipush q, 3)) (hv : (Int16.ofInt q).toInt32 = v) (kk : J κ E f Q k n L M (pc + 3) (.int v :: st)) : J κ E f Q k n L M pc st := fun hC H locs ls hP hS hl => lv_sipush hC.1 hC.2.1 hd hv (kk hC H locs ls hP hS hl)
theorem J_lconst {q : Fin 2} {v : Int64} (hd : decode f.2.1 pc = .ok (.lconst q, 1)) (hv : Int64.ofNat (q : Nat) = v) (kk : J κ E f Q k n L M (pc + 1) (.long v :: st)) : J κ E f Q k n L M pc st := fun hC H locs ls hP hS hl => lv_lconst hC.1 hC.2.1 hd hv (kk hC H locs ls hP hS hl)
theorem J_dconst1  (hd : decode f.2.1 pc = .ok (.dconst 1, 1))  (kk : J κ E f Q k n L M (pc + 1) (.double FP.dconst1 :: st)) : J κ E f Q k n L M pc st := fun hC H locs ls hP hS hl => lv_dconst1 hC.1 hC.2.1 hd  (kk hC H locs ls hP hS hl)
theorem J_dconst0  (hd : decode f.2.1 pc = .ok (.dconst 0, 1))  (kk : J κ E f Q k n L M (pc + 1) (.double FP.dconst0 :: st)) : J κ E f Q k n L M pc st := fun hC H locs ls hP hS hl => lv_dconst0 hC.1 hC.2.1 hd  (kk hC H locs ls hP hS hl)
theorem lv_lk {E : En} {ls : Array Slot} {nL : Nat} {L : List (Nat × Value)} (hl : lv_has ls nL (lvm E L)) (j : Nat) {i : Nat} {v : Value} (h : L[j]? = some (i, v)) : ls[i]? = some (.val (cv E v)) := lv_at hl j (by rw [List.getElem?_map, h]; rfl)
theorem J_iload_n {q : Fin 4} {i : Nat} {x : Int32} (hd : decode f.2.1 pc = .ok (.iload_n q, 1)) (hi : (q : Nat) = i) (j : Nat) (hj : L[j]? = some (i, .int x)) (kk : J κ E f Q k n L M (pc + 1) (.int x :: st)) : J κ E f Q k n L M pc st := fun hC H locs ls hP hS hl => lv_iload_n hC.1 hC.2.1 hd hi (lv_lk hl j hj) (kk hC H locs ls hP hS hl)
theorem J_iload {i : Nat} {x : Int32} (hd : decode f.2.1 pc = .ok (.iload i, 2)) (j : Nat) (hj : L[j]? = some (i, .int x)) (kk : J κ E f Q k n L M (pc + 2) (.int x :: st)) : J κ E f Q k n L M pc st := fun hC H locs ls hP hS hl => lv_iload hC.1 hC.2.1 hd (lv_lk hl j hj) (kk hC H locs ls hP hS hl)
theorem J_lload_n {q : Fin 4} {i : Nat} {x : Int64} (hd : decode f.2.1 pc = .ok (.lload_n q, 1)) (hi : (q : Nat) = i) (j : Nat) (hj : L[j]? = some (i, .long x)) (kk : J κ E f Q k n L M (pc + 1) (.long x :: st)) : J κ E f Q k n L M pc st := fun hC H locs ls hP hS hl => lv_lload_n hC.1 hC.2.1 hd hi (lv_lk hl j hj) (kk hC H locs ls hP hS hl)
theorem J_lload {i : Nat} {x : Int64} (hd : decode f.2.1 pc = .ok (.lload i, 2)) (j : Nat) (hj : L[j]? = some (i, .long x)) (kk : J κ E f Q k n L M (pc + 2) (.long x :: st)) : J κ E f Q k n L M pc st := fun hC H locs ls hP hS hl => lv_lload hC.1 hC.2.1 hd (lv_lk hl j hj) (kk hC H locs ls hP hS hl)
theorem J_aload_n {q : Fin 4} {i : Nat} {x : Nat} (hd : decode f.2.1 pc = .ok (.aload_n q, 1)) (hi : (q : Nat) = i) (j : Nat) (hj : L[j]? = some (i, .ref x)) (kk : J κ E f Q k n L M (pc + 1) (.ref x :: st)) : J κ E f Q k n L M pc st := fun hC H locs ls hP hS hl => lv_aload_n hC.1 hC.2.1 hd hi (lv_lk hl j hj) (kk hC H locs ls hP hS hl)
theorem J_aload {i : Nat} {x : Nat} (hd : decode f.2.1 pc = .ok (.aload i, 2)) (j : Nat) (hj : L[j]? = some (i, .ref x)) (kk : J κ E f Q k n L M (pc + 2) (.ref x :: st)) : J κ E f Q k n L M pc st := fun hC H locs ls hP hS hl => lv_aload hC.1 hC.2.1 hd (lv_lk hl j hj) (kk hC H locs ls hP hS hl)
theorem J_dload_n {q : Fin 4} {i : Nat} {x : UInt64} (hd : decode f.2.1 pc = .ok (.dload_n q, 1)) (hi : (q : Nat) = i) (j : Nat) (hj : L[j]? = some (i, .double x)) (kk : J κ E f Q k n L M (pc + 1) (.double x :: st)) : J κ E f Q k n L M pc st := fun hC H locs ls hP hS hl => lv_dload_n hC.1 hC.2.1 hd hi (lv_lk hl j hj) (kk hC H locs ls hP hS hl)
theorem J_dload {i : Nat} {x : UInt64} (hd : decode f.2.1 pc = .ok (.dload i, 2)) (j : Nat) (hj : L[j]? = some (i, .double x)) (kk : J κ E f Q k n L M (pc + 2) (.double x :: st)) : J κ E f Q k n L M pc st := fun hC H locs ls hP hS hl => lv_dload hC.1 hC.2.1 hd (lv_lk hl j hj) (kk hC H locs ls hP hS hl)
def fl1 (i : Nat) (q : Nat × Value) : Bool := !(q.1 == i) && !(q.1 + 1 == i && q.2.category == 2)
def fl2 (i : Nat) (q : Nat × Value) : Bool := !(q.1 == i) && (!(q.1 == i + 1) && !(q.1 + 1 == i && q.2.category == 2))
theorem lvm_fl1 (E : En) (i : Nat) (L : List (Nat × Value)) : (lvm E L).filter (fun q => !(q.1 == i) && !(q.1 + 1 == i && q.2.category == 2)) = lvm E (L.filter (fl1 i)) := by
  simp only [lvm, List.filter_map]
  congr 1
  apply List.filter_congr
  intro q _
  simp only [Function.comp, fl1, cv_cat]
theorem lvm_fl2 (E : En) (i : Nat) (L : List (Nat × Value)) : (lvm E L).filter (fun q => !(q.1 == i) && (!(q.1 == i + 1) && !(q.1 + 1 == i && q.2.category == 2))) = lvm E (L.filter (fl2 i)) := by
  simp only [lvm, List.filter_map]
  congr 1
  apply List.filter_congr
  intro q _
  simp only [Function.comp, fl2, cv_cat]
theorem lvm_pick (E : En) (L : List (Nat × Value)) (ks : List Nat) : lv_pick (lvm E L) ks = lvm E (lv_pick L ks) := by
  simp only [lv_pick, lvm, List.map_filterMap, List.getElem?_map]
theorem lv_st1 {E : En} {ls : Array Slot} {nL i : Nat} {v : Value} {L L' : List (Nat × Value)} {w : Value} (ks : List Nat) (hw : cv E v = w) (hp : lv_pick ((i, v) :: L.filter (fl1 i)) ks = L') (h : lv_has ls nL ((i, w) :: (lvm E L).filter (fun q => !(q.1 == i) && !(q.1 + 1 == i && q.2.category == 2)))) : lv_has ls nL (lvm E L') := by
  refine lv_sub h ks ?_
  rw [lvm_fl1, ← hw, ← hp, ← lvm_pick]
  rfl
theorem lv_st2 {E : En} {ls : Array Slot} {nL i : Nat} {v : Value} {L L' : List (Nat × Value)} {w : Value} (ks : List Nat) (hw : cv E v = w) (hp : lv_pick ((i, v) :: L.filter (fl2 i)) ks = L') (h : lv_has ls nL ((i, w) :: (lvm E L).filter (fun q => !(q.1 == i) && (!(q.1 == i + 1) && !(q.1 + 1 == i && q.2.category == 2))))) : lv_has ls nL (lvm E L') := by
  refine lv_sub h ks ?_
  rw [lvm_fl2, ← hw, ← hp, ← lvm_pick]
  rfl
theorem J_istore_n {q : Fin 4} {i : Nat} {x : Int32} (hd : decode f.2.1 pc = .ok (.istore_n q, 1)) (hi : (q : Nat) = i) (hn : i < f.2.2.1) (ks : List Nat) (hp : lv_pick ((i, .int x) :: L.filter (fl1 i)) ks = L') (kk : J κ E f Q k n L' M (pc + 1) st) : J κ E f Q k n L M pc (.int x :: st) := fun hC H locs ls hP hS hl => lv_istore_n hC.1 hC.2.1 hd hi hl hn rfl (fun ls' hl' => kk hC H locs ls' hP hS (lv_st1 ks rfl hp hl'))
theorem J_istore {i : Nat} {x : Int32} (hd : decode f.2.1 pc = .ok (.istore i, 2)) (hn : i < f.2.2.1) (ks : List Nat) (hp : lv_pick ((i, .int x) :: L.filter (fl1 i)) ks = L') (kk : J κ E f Q k n L' M (pc + 2) st) : J κ E f Q k n L M pc (.int x :: st) := fun hC H locs ls hP hS hl => lv_istore hC.1 hC.2.1 hd hl hn rfl (fun ls' hl' => kk hC H locs ls' hP hS (lv_st1 ks rfl hp hl'))
theorem J_lstore_n {q : Fin 4} {i : Nat} {x : Int64} (hd : decode f.2.1 pc = .ok (.lstore_n q, 1)) (hi : (q : Nat) = i) (hn : i + 1 < f.2.2.1) (ks : List Nat) (hp : lv_pick ((i, .long x) :: L.filter (fl2 i)) ks = L') (kk : J κ E f Q k n L' M (pc + 1) st) : J κ E f Q k n L M pc (.long x :: st) := fun hC H locs ls hP hS hl => lv_lstore_n hC.1 hC.2.1 hd hi hl hn rfl (fun ls' hl' => kk hC H locs ls' hP hS (lv_st2 ks rfl hp hl'))
theorem J_lstore {i : Nat} {x : Int64} (hd : decode f.2.1 pc = .ok (.lstore i, 2)) (hn : i + 1 < f.2.2.1) (ks : List Nat) (hp : lv_pick ((i, .long x) :: L.filter (fl2 i)) ks = L') (kk : J κ E f Q k n L' M (pc + 2) st) : J κ E f Q k n L M pc (.long x :: st) := fun hC H locs ls hP hS hl => lv_lstore hC.1 hC.2.1 hd hl hn rfl (fun ls' hl' => kk hC H locs ls' hP hS (lv_st2 ks rfl hp hl'))
theorem J_astore_n {q : Fin 4} {i : Nat} {x : Nat} (hd : decode f.2.1 pc = .ok (.astore_n q, 1)) (hi : (q : Nat) = i) (hn : i < f.2.2.1) (ks : List Nat) (hp : lv_pick ((i, .ref x) :: L.filter (fl1 i)) ks = L') (kk : J κ E f Q k n L' M (pc + 1) st) : J κ E f Q k n L M pc (.ref x :: st) := fun hC H locs ls hP hS hl => lv_astore_n hC.1 hC.2.1 hd hi hl hn rfl (fun ls' hl' => kk hC H locs ls' hP hS (lv_st1 ks rfl hp hl'))
theorem J_astore {i : Nat} {x : Nat} (hd : decode f.2.1 pc = .ok (.astore i, 2)) (hn : i < f.2.2.1) (ks : List Nat) (hp : lv_pick ((i, .ref x) :: L.filter (fl1 i)) ks = L') (kk : J κ E f Q k n L' M (pc + 2) st) : J κ E f Q k n L M pc (.ref x :: st) := fun hC H locs ls hP hS hl => lv_astore hC.1 hC.2.1 hd hl hn rfl (fun ls' hl' => kk hC H locs ls' hP hS (lv_st1 ks rfl hp hl'))
theorem J_dstore_n {q : Fin 4} {i : Nat} {x : UInt64} (hd : decode f.2.1 pc = .ok (.dstore_n q, 1)) (hi : (q : Nat) = i) (hn : i + 1 < f.2.2.1) (ks : List Nat) (hp : lv_pick ((i, .double x) :: L.filter (fl2 i)) ks = L') (kk : J κ E f Q k n L' M (pc + 1) st) : J κ E f Q k n L M pc (.double x :: st) := fun hC H locs ls hP hS hl => lv_dstore_n hC.1 hC.2.1 hd hi hl hn rfl (fun ls' hl' => kk hC H locs ls' hP hS (lv_st2 ks rfl hp hl'))
theorem J_dstore {i : Nat} {x : UInt64} (hd : decode f.2.1 pc = .ok (.dstore i, 2)) (hn : i + 1 < f.2.2.1) (ks : List Nat) (hp : lv_pick ((i, .double x) :: L.filter (fl2 i)) ks = L') (kk : J κ E f Q k n L' M (pc + 2) st) : J κ E f Q k n L M pc (.double x :: st) := fun hC H locs ls hP hS hl => lv_dstore hC.1 hC.2.1 hd hl hn rfl (fun ls' hl' => kk hC H locs ls' hP hS (lv_st2 ks rfl hp hl'))
theorem J_iinc {i : Nat} {q : Int} {x v : Int32} (hd : decode f.2.1 pc = .ok (.iinc i q, 3)) (j : Nat) (hj : L[j]? = some (i, .int x)) (hv : x + Int32.ofInt q = v) (hn : i < f.2.2.1) (ks : List Nat) (hp : lv_pick ((i, .int v) :: L.filter (fl1 i)) ks = L') (kk : J κ E f Q k n L' M (pc + 3) st) : J κ E f Q k n L M pc st := fun hC H locs ls hP hS hl => lv_iinc hC.1 hC.2.1 hd hl (k := j) (by rw [List.getElem?_map, hj]; rfl) hv hn rfl (fun ls' hl' => kk hC H locs ls' hP hS (lv_st1 ks rfl hp hl'))
theorem J_iadd {x y : Int32} (hd : decode f.2.1 pc = .ok (.iadd, 1))  (kk : J κ E f Q k n L M (pc + 1) (.int (x + y) :: st)) : J κ E f Q k n L M pc (.int y :: .int x :: st) := fun hC H locs ls hP hS hl => lv_iadd hC.1 hC.2.1 hd  (kk hC H locs ls hP hS hl)
theorem J_isub {x y : Int32} (hd : decode f.2.1 pc = .ok (.isub, 1))  (kk : J κ E f Q k n L M (pc + 1) (.int (x - y) :: st)) : J κ E f Q k n L M pc (.int y :: .int x :: st) := fun hC H locs ls hP hS hl => lv_isub hC.1 hC.2.1 hd  (kk hC H locs ls hP hS hl)
theorem J_imul {x y : Int32} (hd : decode f.2.1 pc = .ok (.imul, 1))  (kk : J κ E f Q k n L M (pc + 1) (.int (x * y) :: st)) : J κ E f Q k n L M pc (.int y :: .int x :: st) := fun hC H locs ls hP hS hl => lv_imul hC.1 hC.2.1 hd  (kk hC H locs ls hP hS hl)
theorem J_iand {x y : Int32} (hd : decode f.2.1 pc = .ok (.iand, 1))  (kk : J κ E f Q k n L M (pc + 1) (.int (x &&& y) :: st)) : J κ E f Q k n L M pc (.int y :: .int x :: st) := fun hC H locs ls hP hS hl => lv_iand hC.1 hC.2.1 hd  (kk hC H locs ls hP hS hl)
theorem J_ior {x y : Int32} (hd : decode f.2.1 pc = .ok (.ior, 1))  (kk : J κ E f Q k n L M (pc + 1) (.int (x ||| y) :: st)) : J κ E f Q k n L M pc (.int y :: .int x :: st) := fun hC H locs ls hP hS hl => lv_ior hC.1 hC.2.1 hd  (kk hC H locs ls hP hS hl)
theorem J_ixor {x y : Int32} (hd : decode f.2.1 pc = .ok (.ixor, 1))  (kk : J κ E f Q k n L M (pc + 1) (.int (x ^^^ y) :: st)) : J κ E f Q k n L M pc (.int y :: .int x :: st) := fun hC H locs ls hP hS hl => lv_ixor hC.1 hC.2.1 hd  (kk hC H locs ls hP hS hl)
theorem J_ishl {x y : Int32} (hd : decode f.2.1 pc = .ok (.ishl, 1))  (kk : J κ E f Q k n L M (pc + 1) (.int (x <<< (y &&& 31)) :: st)) : J κ E f Q k n L M pc (.int y :: .int x :: st) := fun hC H locs ls hP hS hl => lv_ishl hC.1 hC.2.1 hd  (kk hC H locs ls hP hS hl)
theorem J_ishr {x y : Int32} (hd : decode f.2.1 pc = .ok (.ishr, 1))  (kk : J κ E f Q k n L M (pc + 1) (.int (x >>> (y &&& 31)) :: st)) : J κ E f Q k n L M pc (.int y :: .int x :: st) := fun hC H locs ls hP hS hl => lv_ishr hC.1 hC.2.1 hd  (kk hC H locs ls hP hS hl)
theorem J_iushr {x y v : Int32} (hd : decode f.2.1 pc = .ok (.iushr, 1)) (hv : (x.toUInt32 >>> (y.toUInt32 &&& Int32.toUInt32 31)).toInt32 = v) (kk : J κ E f Q k n L M (pc + 1) (.int v :: st)) : J κ E f Q k n L M pc (.int y :: .int x :: st) := fun hC H locs ls hP hS hl => lv_iushr hC.1 hC.2.1 hd hv (kk hC H locs ls hP hS hl)
theorem J_idiv {x y : Int32} (hd : decode f.2.1 pc = .ok (.idiv, 1)) (hne : ¬ y = 0) (kk : J κ E f Q k n L M (pc + 1) (.int (x / y) :: st)) : J κ E f Q k n L M pc (.int y :: .int x :: st) := fun hC H locs ls hP hS hl => lv_idiv hC.1 hC.2.1 hd hne (kk hC H locs ls hP hS hl)
theorem J_irem {x y : Int32} (hd : decode f.2.1 pc = .ok (.irem, 1)) (hne : ¬ y = 0) (kk : J κ E f Q k n L M (pc + 1) (.int (x - x / y * y) :: st)) : J κ E f Q k n L M pc (.int y :: .int x :: st) := fun hC H locs ls hP hS hl => lv_irem hC.1 hC.2.1 hd hne (kk hC H locs ls hP hS hl)
theorem J_ineg {x : Int32} (hd : decode f.2.1 pc = .ok (.ineg, 1))  (kk : J κ E f Q k n L M (pc + 1) (.int (-x) :: st)) : J κ E f Q k n L M pc (.int x :: st) := fun hC H locs ls hP hS hl => lv_ineg hC.1 hC.2.1 hd  (kk hC H locs ls hP hS hl)
theorem J_ladd {x y : Int64} (hd : decode f.2.1 pc = .ok (.ladd, 1))  (kk : J κ E f Q k n L M (pc + 1) (.long (x + y) :: st)) : J κ E f Q k n L M pc (.long y :: .long x :: st) := fun hC H locs ls hP hS hl => lv_ladd hC.1 hC.2.1 hd  (kk hC H locs ls hP hS hl)
theorem J_lsub {x y : Int64} (hd : decode f.2.1 pc = .ok (.lsub, 1))  (kk : J κ E f Q k n L M (pc + 1) (.long (x - y) :: st)) : J κ E f Q k n L M pc (.long y :: .long x :: st) := fun hC H locs ls hP hS hl => lv_lsub hC.1 hC.2.1 hd  (kk hC H locs ls hP hS hl)
theorem J_lmul {x y : Int64} (hd : decode f.2.1 pc = .ok (.lmul, 1))  (kk : J κ E f Q k n L M (pc + 1) (.long (x * y) :: st)) : J κ E f Q k n L M pc (.long y :: .long x :: st) := fun hC H locs ls hP hS hl => lv_lmul hC.1 hC.2.1 hd  (kk hC H locs ls hP hS hl)
theorem J_lor {x y : Int64} (hd : decode f.2.1 pc = .ok (.lor, 1))  (kk : J κ E f Q k n L M (pc + 1) (.long (x ||| y) :: st)) : J κ E f Q k n L M pc (.long y :: .long x :: st) := fun hC H locs ls hP hS hl => lv_lor hC.1 hC.2.1 hd  (kk hC H locs ls hP hS hl)
theorem J_lshl {x v : Int64} {y : Int32} (hd : decode f.2.1 pc = .ok (.lshl, 1)) (hv : x <<< (y.toInt64 &&& 63) = v) (kk : J κ E f Q k n L M (pc + 1) (.long v :: st)) : J κ E f Q k n L M pc (.int y :: .long x :: st) := fun hC H locs ls hP hS hl => lv_lshl hC.1 hC.2.1 hd hv (kk hC H locs ls hP hS hl)
theorem J_i2l {x : Int32} (hd : decode f.2.1 pc = .ok (.i2l, 1))  (kk : J κ E f Q k n L M (pc + 1) (.long x.toInt64 :: st)) : J κ E f Q k n L M pc (.int x :: st) := fun hC H locs ls hP hS hl => lv_i2l hC.1 hC.2.1 hd rfl (kk hC H locs ls hP hS hl)
theorem J_l2i {x : Int64} (hd : decode f.2.1 pc = .ok (.l2i, 1))  (kk : J κ E f Q k n L M (pc + 1) (.int x.toInt32 :: st)) : J κ E f Q k n L M pc (.long x :: st) := fun hC H locs ls hP hS hl => lv_l2i hC.1 hC.2.1 hd rfl (kk hC H locs ls hP hS hl)
theorem J_i2d {x : Int32} (hd : decode f.2.1 pc = .ok (.i2d, 1))  (kk : J κ E f Q k n L M (pc + 1) (.double (FP.i2d x) :: st)) : J κ E f Q k n L M pc (.int x :: st) := fun hC H locs ls hP hS hl => lv_i2d hC.1 hC.2.1 hd  (kk hC H locs ls hP hS hl)
theorem J_d2l {x : UInt64} (hd : decode f.2.1 pc = .ok (.d2l, 1))  (kk : J κ E f Q k n L M (pc + 1) (.long (FP.d2l x) :: st)) : J κ E f Q k n L M pc (.double x :: st) := fun hC H locs ls hP hS hl => lv_d2l hC.1 hC.2.1 hd  (kk hC H locs ls hP hS hl)
theorem J_dmul {x y : UInt64} (hd : decode f.2.1 pc = .ok (.dmul, 1)) (hne : vf_n64 (FP.dmul x y)) (kk : J κ E f Q k n L M (pc + 1) (.double (FP.dmul x y) :: st)) : J κ E f Q k n L M pc (.double y :: .double x :: st) := fun hC H locs ls hP hS hl => lv_dmul hC.1 hC.2.1 hd hne (kk hC H locs ls hP hS hl)
theorem J_dsub {x y : UInt64} (hd : decode f.2.1 pc = .ok (.dsub, 1)) (hne : vf_n64 (FP.dsub x y)) (kk : J κ E f Q k n L M (pc + 1) (.double (FP.dsub x y) :: st)) : J κ E f Q k n L M pc (.double y :: .double x :: st) := fun hC H locs ls hP hS hl => lv_dsub hC.1 hC.2.1 hd hne (kk hC H locs ls hP hS hl)
theorem J_ddiv {x y : UInt64} (hd : decode f.2.1 pc = .ok (.ddiv, 1)) (hne : vf_n64 (FP.ddiv x y)) (kk : J κ E f Q k n L M (pc + 1) (.double (FP.ddiv x y) :: st)) : J κ E f Q k n L M pc (.double y :: .double x :: st) := fun hC H locs ls hP hS hl => lv_ddiv hC.1 hC.2.1 hd hne (kk hC H locs ls hP hS hl)
theorem J_dcmp {x y : UInt64} {op : CmpOp} (hd : decode f.2.1 pc = .ok (.dcmp op, 1))  (kk : J κ E f Q k n L M (pc + 1) (.int (Op.cmpValue (FP.dcmp x y) op) :: st)) : J κ E f Q k n L M pc (.double y :: .double x :: st) := fun hC H locs ls hP hS hl => lv_dcmp hC.1 hC.2.1 hd  (kk hC H locs ls hP hS hl)
theorem J_lcmp {x y : Int64} (hd : decode f.2.1 pc = .ok (.lcmp, 1)) (kk : J κ E f Q k n L M (pc + 1) (.int (lg_cmp x y) :: st)) : J κ E f Q k n L M pc (.long y :: .long x :: st) := fun hC H locs ls hP hS hl => W.lcmp hC.1 hC.2.1 hd (kk hC H locs ls hP hS hl)
theorem J_dup {v : Value} (hd : decode f.2.1 pc = .ok (.dup, 1)) (hv : v.category = 1) (kk : J κ E f Q k n L M (pc + 1) (v :: v :: st)) : J κ E f Q k n L M pc (v :: st) := fun hC H locs ls hP hS hl => lv_dup hC.1 hC.2.1 hd (by rw [cv_cat]; exact hv) (kk hC H locs ls hP hS hl)
theorem J_pop {v : Value} (hd : decode f.2.1 pc = .ok (.pop, 1)) (hv : v.category = 1) (kk : J κ E f Q k n L M (pc + 1) st) : J κ E f Q k n L M pc (v :: st) := fun hC H locs ls hP hS hl => lv_pop hC.1 hC.2.1 hd (by rw [cv_cat]; exact hv) (kk hC H locs ls hP hS hl)
theorem J_dup2 {v w : Value} (hd : decode f.2.1 pc = .ok (.dup2, 1)) (hv : v.category = 1) (hw : w.category = 1) (kk : J κ E f Q k n L M (pc + 1) (v :: w :: v :: w :: st)) : J κ E f Q k n L M pc (v :: w :: st) := fun hC H locs ls hP hS hl => lv_dup2_11 hC.1 hC.2.1 hd (by rw [cv_cat]; exact hv) (by rw [cv_cat]; exact hw) (kk hC H locs ls hP hS hl)
theorem J_if_eq {x : Int32} {off : Int} {tgt : Nat} (hd : decode f.2.1 pc = .ok (.ifCond .eq off, 3)) (ht : (pc : Int) + off = (tgt : Int)) (kt : x = 0 → J κ E f Q k n L M tgt st) (kf : ¬ x = 0 → J κ E f Q k n L M (pc + 3) st) : J κ E f Q k n L M pc (.int x :: st) := fun hC H locs ls hP hS hl => lv_if_eq hC.1 hC.2.1 hd ht (fun h => kt h hC H locs ls hP hS hl) (fun h => kf h hC H locs ls hP hS hl)
theorem J_if_ne {x : Int32} {off : Int} {tgt : Nat} (hd : decode f.2.1 pc = .ok (.ifCond .ne off, 3)) (ht : (pc : Int) + off = (tgt : Int)) (kt : x ≠ 0 → J κ E f Q k n L M tgt st) (kf : x = 0 → J κ E f Q k n L M (pc + 3) st) : J κ E f Q k n L M pc (.int x :: st) := fun hC H locs ls hP hS hl => lv_if_ne hC.1 hC.2.1 hd ht (fun h => kt h hC H locs ls hP hS hl) (fun h => kf h hC H locs ls hP hS hl)
theorem J_if_lt {x : Int32} {off : Int} {tgt : Nat} (hd : decode f.2.1 pc = .ok (.ifCond .lt off, 3)) (ht : (pc : Int) + off = (tgt : Int)) (kt : x < 0 → J κ E f Q k n L M tgt st) (kf : ¬ x < 0 → J κ E f Q k n L M (pc + 3) st) : J κ E f Q k n L M pc (.int x :: st) := fun hC H locs ls hP hS hl => lv_if_lt hC.1 hC.2.1 hd ht (fun h => kt h hC H locs ls hP hS hl) (fun h => kf h hC H locs ls hP hS hl)
theorem J_if_ge {x : Int32} {off : Int} {tgt : Nat} (hd : decode f.2.1 pc = .ok (.ifCond .ge off, 3)) (ht : (pc : Int) + off = (tgt : Int)) (kt : 0 ≤ x → J κ E f Q k n L M tgt st) (kf : ¬ 0 ≤ x → J κ E f Q k n L M (pc + 3) st) : J κ E f Q k n L M pc (.int x :: st) := fun hC H locs ls hP hS hl => lv_if_ge hC.1 hC.2.1 hd ht (fun h => kt h hC H locs ls hP hS hl) (fun h => kf h hC H locs ls hP hS hl)
theorem J_if_gt {x : Int32} {off : Int} {tgt : Nat} (hd : decode f.2.1 pc = .ok (.ifCond .gt off, 3)) (ht : (pc : Int) + off = (tgt : Int)) (kt : 0 < x → J κ E f Q k n L M tgt st) (kf : ¬ 0 < x → J κ E f Q k n L M (pc + 3) st) : J κ E f Q k n L M pc (.int x :: st) := fun hC H locs ls hP hS hl => lv_if_gt hC.1 hC.2.1 hd ht (fun h => kt h hC H locs ls hP hS hl) (fun h => kf h hC H locs ls hP hS hl)
theorem J_if_le {x : Int32} {off : Int} {tgt : Nat} (hd : decode f.2.1 pc = .ok (.ifCond .le off, 3)) (ht : (pc : Int) + off = (tgt : Int)) (kt : x ≤ 0 → J κ E f Q k n L M tgt st) (kf : ¬ x ≤ 0 → J κ E f Q k n L M (pc + 3) st) : J κ E f Q k n L M pc (.int x :: st) := fun hC H locs ls hP hS hl => lv_if_le hC.1 hC.2.1 hd ht (fun h => kt h hC H locs ls hP hS hl) (fun h => kf h hC H locs ls hP hS hl)
theorem J_icmp_eq {x y : Int32} {off : Int} {tgt : Nat} (hd : decode f.2.1 pc = .ok (.if_icmp .eq off, 3)) (ht : (pc : Int) + off = (tgt : Int)) (kt : x = y → J κ E f Q k n L M tgt st) (kf : ¬ x = y → J κ E f Q k n L M (pc + 3) st) : J κ E f Q k n L M pc (.int y :: .int x :: st) := fun hC H locs ls hP hS hl => lv_icmp_eq hC.1 hC.2.1 hd ht (fun h => kt h hC H locs ls hP hS hl) (fun h => kf h hC H locs ls hP hS hl)
theorem J_icmp_ne {x y : Int32} {off : Int} {tgt : Nat} (hd : decode f.2.1 pc = .ok (.if_icmp .ne off, 3)) (ht : (pc : Int) + off = (tgt : Int)) (kt : x ≠ y → J κ E f Q k n L M tgt st) (kf : x = y → J κ E f Q k n L M (pc + 3) st) : J κ E f Q k n L M pc (.int y :: .int x :: st) := fun hC H locs ls hP hS hl => lv_icmp_ne hC.1 hC.2.1 hd ht (fun h => kt h hC H locs ls hP hS hl) (fun h => kf h hC H locs ls hP hS hl)
theorem J_icmp_lt {x y : Int32} {off : Int} {tgt : Nat} (hd : decode f.2.1 pc = .ok (.if_icmp .lt off, 3)) (ht : (pc : Int) + off = (tgt : Int)) (kt : x < y → J κ E f Q k n L M tgt st) (kf : ¬ x < y → J κ E f Q k n L M (pc + 3) st) : J κ E f Q k n L M pc (.int y :: .int x :: st) := fun hC H locs ls hP hS hl => lv_icmp_lt hC.1 hC.2.1 hd ht (fun h => kt h hC H locs ls hP hS hl) (fun h => kf h hC H locs ls hP hS hl)
theorem J_icmp_ge {x y : Int32} {off : Int} {tgt : Nat} (hd : decode f.2.1 pc = .ok (.if_icmp .ge off, 3)) (ht : (pc : Int) + off = (tgt : Int)) (kt : y ≤ x → J κ E f Q k n L M tgt st) (kf : ¬ y ≤ x → J κ E f Q k n L M (pc + 3) st) : J κ E f Q k n L M pc (.int y :: .int x :: st) := fun hC H locs ls hP hS hl => lv_icmp_ge hC.1 hC.2.1 hd ht (fun h => kt h hC H locs ls hP hS hl) (fun h => kf h hC H locs ls hP hS hl)
theorem J_icmp_gt {x y : Int32} {off : Int} {tgt : Nat} (hd : decode f.2.1 pc = .ok (.if_icmp .gt off, 3)) (ht : (pc : Int) + off = (tgt : Int)) (kt : y < x → J κ E f Q k n L M tgt st) (kf : ¬ y < x → J κ E f Q k n L M (pc + 3) st) : J κ E f Q k n L M pc (.int y :: .int x :: st) := fun hC H locs ls hP hS hl => lv_icmp_gt hC.1 hC.2.1 hd ht (fun h => kt h hC H locs ls hP hS hl) (fun h => kf h hC H locs ls hP hS hl)
theorem J_icmp_le {x y : Int32} {off : Int} {tgt : Nat} (hd : decode f.2.1 pc = .ok (.if_icmp .le off, 3)) (ht : (pc : Int) + off = (tgt : Int)) (kt : x ≤ y → J κ E f Q k n L M tgt st) (kf : ¬ x ≤ y → J κ E f Q k n L M (pc + 3) st) : J κ E f Q k n L M pc (.int y :: .int x :: st) := fun hC H locs ls hP hS hl => lv_icmp_le hC.1 hC.2.1 hd ht (fun h => kt h hC H locs ls hP hS hl) (fun h => kf h hC H locs ls hP hS hl)
theorem J_goto {off : Int} {tgt : Nat} (hd : decode f.2.1 pc = .ok (.goto off, 3)) (ht : (pc : Int) + off = (tgt : Int)) (kk : J κ E f Q k n L M tgt st) : J κ E f Q k n L M pc st := fun hC H locs ls hP hS hl => lv_goto hC.1 hC.2.1 hd ht (kk hC H locs ls hP hS hl)
theorem J_ifnull {x : Nat} {off : Int} (hd : decode f.2.1 pc = .ok (.ifnull off, 3)) (kk : J κ E f Q k n L M (pc + 3) st) : J κ E f Q k n L M pc (.ref x :: st) := fun hC H locs ls hP hS hl => lv_ifnull hC.1 hC.2.1 hd (kk hC H locs ls hP hS hl)
theorem J_ldc {i : Nat} {v : Int32} (hw : Cond.constant f.1.cls i v ∈ SWL) (hd : decode f.2.1 pc = .ok (.ldc i, 2)) (kk : J κ E f Q k n L M (pc + 2) (.int v :: st)) : J κ E f Q k n L M pc st := fun hC H locs ls hP hS hl => lv_ldc hC.1 hC.2.1 hC.2.2.2.2.1 (hC.2.2.2.2.2.1 _ hw) hd (kk hC H locs ls hP hS hl)
theorem J_ldcw {i : Nat} {v : Int32} (hw : Cond.constant f.1.cls i v ∈ SWL) (hd : decode f.2.1 pc = .ok (.ldc_w i, 3)) (kk : J κ E f Q k n L M (pc + 3) (.int v :: st)) : J κ E f Q k n L M pc st := fun hC H locs ls hP hS hl => lv_ldcw hC.1 hC.2.1 hC.2.2.2.2.1 (hC.2.2.2.2.2.1 _ hw) hd (kk hC H locs ls hP hS hl)
theorem J_ldc2 {i : Nat} {v : Int64} (hw : Cond.constantLong f.1.cls i v ∈ SWL) (hd : decode f.2.1 pc = .ok (.ldc2_w i, 3)) (kk : J κ E f Q k n L M (pc + 3) (.long v :: st)) : J κ E f Q k n L M pc st := fun hC H locs ls hP hS hl => lv_ldc2 hC.1 hC.2.1 hC.2.2.2.2.1 (hC.2.2.2.2.2.1 _ hw) hd (kk hC H locs ls hP hS hl)
theorem J_ldc2d {i : Nat} {v : UInt64} (hw : Cond.constantDouble f.1.cls i v ∈ SWL) (hd : decode f.2.1 pc = .ok (.ldc2_w i, 3)) (kk : J κ E f Q k n L M (pc + 3) (.double v :: st)) : J κ E f Q k n L M pc st := fun hC H locs ls hP hS hl => lv_ldc2d hC.1 hC.2.1 hC.2.2.2.2.1 (hC.2.2.2.2.2.1 _ hw) hd (kk hC H locs ls hP hS hl)
theorem J_lookup {dflt : Int} {ps : Array (Int × Int)} {len : Nat} {x : Int32} {off : Int} {tgt : Nat} (hd : decode f.2.1 pc = .ok (.lookupswitch dflt ps, len)) (hp : (ps.toList.zip (ps.toList.drop 1)).all (fun (a, next) => a.1 < next.1) = true) (ho : Op.lookupswitch.offset ps.toList dflt x.toInt = off) (ht : (pc : Int) + off = (tgt : Int)) (kk : J κ E f Q k n L M tgt st) : J κ E f Q k n L M pc (.int x :: st) := fun hC H locs ls hP hS hl => lv_lookup hC.1 hC.2.1 hd hp ho ht (kk hC H locs ls hP hS hl)
theorem J_tableIn {dflt lo hi : Int} {offs : Array Int} {len : Nat} {x : Int32} {off : Int} {tgt : Nat} (hd : decode f.2.1 pc = .ok (.tableswitch dflt lo hi offs, len)) (h1 : ¬ x.toInt < lo) (h2 : ¬ hi < x.toInt) (ho : offs[(x.toInt - lo).toNat]? = some off) (ht : (pc : Int) + off = (tgt : Int)) (kk : J κ E f Q k n L M tgt st) : J κ E f Q k n L M pc (.int x :: st) := fun hC H locs ls hP hS hl => lv_tableIn hC.1 hC.2.1 hd h1 h2 ho ht (kk hC H locs ls hP hS hl)
theorem J_tableOut {dflt lo hi : Int} {offs : Array Int} {len : Nat} {x : Int32} {tgt : Nat} (hd : decode f.2.1 pc = .ok (.tableswitch dflt lo hi offs, len)) (h : x.toInt < lo ∨ hi < x.toInt) (ht : (pc : Int) + dflt = (tgt : Int)) (kk : J κ E f Q k n L M tgt st) : J κ E f Q k n L M pc (.int x :: st) := fun hC H locs ls hP hS hl => lv_tableOut hC.1 hC.2.1 hd h ht (kk hC H locs ls hP hS hl)
end JI
end
section
/-! ===== J: rows of fields, arrays, calls, throws ===== -/
section JF
variable {κ : Kx} {E : En} {f : MI} {Q : State → Prop} {k n : Nat} {L L' : List (Nat × Value)} {M M' : Wd} {pc : Nat} {st : List Value}
/-- getfield: the cell c is an object of the class ci, its field j holds v -/
theorem J_get {c ci i : Nat} {C ref : String} {T : u_T} {N : Nat} {fs : List Value} {v : Value} (hj : jc E M c = .inr (ci, fs)) (hc : c < 53) (hcl : vwCl[ci]? = some (C, T, N)) (hlay : ∀ w ∈ u_ws C T N, w ∈ SWL) (j : Nat) (hk : j < N) (hlink : Cond.fieldLink f.1.cls i ref (T j).2.1 (T j).2.2.1 ∈ SWL) (hsame : (T j).1 = ref) (hv : fs[j]? = some (cv E v)) (hd : decode f.2.1 pc = .ok (.getfield i, 3))
    (kk : J κ E f Q k n L M (pc + 3) (v :: st)) : J κ E f Q k n L M pc (.ref c :: st) := by
  intro hC H locs ls hP hS hl
  exact va_get hC.1 hC.2.1 hC.2.2.2.2.2.1 hlay hC.2.2.2.2.1 hC.2.2.2.2.2.2.2.2.1.1 hP c (by rw [mk_get hc, hj]) hcl j hk (hC.2.2.2.2.2.1 _ hlink) (fun x h => by rw [← hsame]; exact h) hv hd (kk hC H locs ls hP hS hl)
/-- putfield of a field that is not final -/
theorem J_put {c ci i : Nat} {C ref : String} {T : u_T} {N : Nat} {fs : List Value} {v : Value} (hj : jc E M c = .inr (ci, fs)) (hc : c < 53) (hcl : vwCl[ci]? = some (C, T, N)) (hlay : ∀ w ∈ u_ws C T N, w ∈ SWL) (ty0 : Nat → FieldType) (hty : ∀ k, k < N → parseFieldDescriptor (T k).2.2.1 = some (ty0 k)) (hnm : ∀ a, a < N → ∀ b, b < N → a ≠ b → (T a).2.1 ≠ (T b).2.1) (j : Nat) (hk : j < N) (hlink : Cond.fieldLink f.1.cls i ref (T j).2.1 (T j).2.2.1 ∈ SWL) (hsame : (T j).1 = ref) (hfin : (T j).2.2.2 = false) (hn : narrow (ty0 j) (cv E v) = cv E v) (hfit : fits (ty0 j) (cv E v) = true) (hlen : j < fs.length) (hj' : jc E M' c = .inr (ci, fs.set j (cv E v))) (hne : ∀ i, i ≠ c → jc E M' i = jc E M i) (hd : decode f.2.1 pc = .ok (.putfield i, 3))
    (kk : J κ E f Q k n L M' (pc + 3) st) : J κ E f Q k n L M pc (v :: .ref c :: st) := by
  intro hC H locs ls hP hS hl
  refine va_put hC.1 hC.2.1 hC.2.2.2.2.2.1 hlay ty0 hty hnm hC.2.2.2.2.1 hC.2.2.2.2.2.2.2.2.1.1 hP mk_D hS c (by rw [mk_get hc, hj]) hcl j hk (hC.2.2.2.2.2.1 _ hlink) (fun x h => by rw [← hsame]; exact h) hfin (hty j hk) hn hfit hlen hd (fun H1 locs1 hP1 _ hS1 => ?_)
  rw [mk_set hc hj' hne] at hP1
  exact kk hC H1 locs1 ls hP1 hS1 hl
theorem jc_iarr {c N : Nat} (hj : jc E M c = .inl (E.2.2.1 0, N, .inl (M.1 c))) (hc : c < 53) : (mk E M)[c]? = some (adr E c, .inl (E.2.2.1 0, N, .inl (M.1 c))) := by rw [mk_get hc, hj]
theorem J_iald {c N : Nat} {i : Int32} (hj : jc E M c = .inl (E.2.2.1 0, N, .inl (M.1 c))) (hc : c < 53) (hin : vp_in i N) (hd : decode f.2.1 pc = .ok (.iaload, 1))
    (kk : J κ E f Q k n L M (pc + 1) (.int (M.1 c i.toNatClampNeg) :: st)) : J κ E f Q k n L M pc (.int i :: .ref c :: st) := by
  intro hC H locs ls hP hS hl
  exact va_iald hC.1 hC.2.1 hC.2.2.2.2.2.2.2.2.1.1 hP c 0 (jc_iarr hj hc) rfl hin hd (kk hC H locs ls hP hS hl)
theorem upI_row {c j : Nat} {v : Int32} : (upI M c j v).1 c = upd (M.1 c) j v := if_pos rfl
theorem upI_row_ne {c c' j : Nat} {v : Int32} (h : c' ≠ c) : (upI M c j v).1 c' = M.1 c' := if_neg h
theorem J_iast {c N : Nat} {i x : Int32} (hj : ∀ M : Wd, jc E M c = .inl (E.2.2.1 0, N, .inl (M.1 c))) (hc : c < 53) (hin : vp_in i N) (hd : decode f.2.1 pc = .ok (.iastore, 1))
    (kk : J κ E f Q k n L (upI M c i.toNatClampNeg x) (pc + 1) st) : J κ E f Q k n L M pc (.int x :: .int i :: .ref c :: st) := by
  intro hC H locs ls hP hS hl
  refine va_iast hC.1 hC.2.1 hC.2.2.2.2.2.2.2.2.1.1 hP mk_D hS c 0 (jc_iarr (hj M) hc) rfl hin hd (fun H1 locs1 hP1 _ hS1 => ?_)
  rw [mk_set hc (M' := upI M c i.toNatClampNeg x) (by rw [hj, upI_row]) jc_ne_I] at hP1
  exact kk hC H1 locs1 ls hP1 hS1 hl
/-- the saved parks (13) -/
theorem J_aald {i : Int32} (hin : vp_in i 5) (hd : decode f.2.1 pc = .ok (.aaload, 1))
    (kk : J κ E f Q k n L M (pc + 1) (.ref (M.2.2 i.toNatClampNeg) :: st)) : J κ E f Q k n L M pc (.int i :: .ref 13 :: st) := by
  intro hC H locs ls hP hS hl
  exact va_aldq hC.1 hC.2.1 hC.2.2.2.2.2.2.2.2.1.1 hP 13 1 (cA := E.2.2.1 1) (n := 5) (C := "CarTangos$Park") (f := fun j => some (adr E (M.2.2 j))) (by rw [mk_get (by decide)]; rfl) rfl hin hd (kk hC H locs ls hP hS hl)
theorem jc_pk {b : Nat} (hb : isPk b = true) : jc E M b = .inr (1, [.ref (adr E (b + 1)), .ref (adr E (b + 2)), .ref (adr E (b + 3)), .ref (adr E (b + 4)), .ref (adr E (b + 5)), .int (M.1 b 5), .int (M.1 b 6), .int (M.1 b 7), .int (M.1 b 8), .int (M.1 b 9)]) := by
  simp only [isPk, Bool.or_eq_true, beq_iff_eq] at hb
  rcases hb with (((((rfl | rfl) | rfl) | rfl) | rfl) | rfl) | rfl <;> rfl
theorem jpk_lt {b : Nat} (hb : isPk b = true) : b < 39 := by
  simp only [isPk, Bool.or_eq_true, beq_iff_eq] at hb
  omega
theorem J_aast {i : Int32} {b : Nat} (hb : isPk b = true) (hin : vp_in i 5) (hd : decode f.2.1 pc = .ok (.aastore, 1))
    (kk : J κ E f Q k n L (upP M i.toNatClampNeg b) (pc + 1) st) : J κ E f Q k n L M pc (.ref b :: .int i :: .ref 13 :: st) := by
  intro hC H locs ls hP hS hl
  have hb' := jpk_lt hb
  refine va_astq hC.1 hC.2.1 hC.2.2.2.2.2.2.2.2.1.1 hP mk_D hS 13 1 b 1 (cA := E.2.2.1 1) (n := 5) (r := (RX1, TX1, 10)) (f := fun j => some (adr E (M.2.2 j))) (by rw [mk_get (by decide)]; rfl) rfl (by rw [mk_get (by omega), jc_pk hb]) rfl hin hd (fun H1 locs1 hP1 _ hS1 => ?_)
  have h9 := mk_set (E := E) (M := M) (M' := upP M i.toNatClampNeg b) (c := 13) (e := .inl (E.2.2.1 1, 5, .inr (.inr (.inr (.inr (va_up (fun j => some (adr E (M.2.2 j))) i.toNatClampNeg (some (adr E b)))))))) (by decide) (by
    have h8 : (fun j => some (adr E ((upP M i.toNatClampNeg b).2.2 j))) = va_up (fun j => some (adr E (M.2.2 j))) i.toNatClampNeg (some (adr E b)) := by
      funext j
      simp only [upP, va_up]
      by_cases hj : j = i.toNatClampNeg
      · rw [if_pos hj, if_pos hj]
      · rw [if_neg hj, if_neg hj]
    rw [← h8]
    rfl) jc_ne_P
  rw [h9] at hP1
  exact kk hC H1 locs1 ls hP1 hS1 hl
end JF
end
section
/-! ===== J: calls, throws, catches ===== -/
theorem FB_Rl {E : En} {av : List Value} {M : Wd} : FrameBlind (va_Pc (cvs E av) (Rl E M)) := fun a _ g mk' q => ⟨q.1, q.2.1, q.2.2.calling g mk' a⟩
section JK
variable {p : Program} {l : Launch} {e : Env} {R : Room} {s : State} {m : MethodId} {args : Array Value} {below : List Frame} {meth : Method} {c : Code} {H : Heap} {locs : List Loc} {k n : Nat} {Q : State → Prop}
theorem jrun {E : En} {g : MI} {o : Oc} {M' : Wd} {mc ms pc : Nat} {ls : Array Slot} {st0 rest : List Value} {a : Array Value}
    (hr : vx_Run p l e R s m args below meth c H locs k n mc ms (F0 m pc ls st0) rest (QV E g o M' a) (XV E o M') (Ar E)) (hS : va_S (Ar E) s.heap H locs)
    (kk : ∀ v, o = .inl v → okB g.2.2.2.1 v → ∀ (H1 : Heap) (locs1 : List Loc), va_P E.2.1 vwCl (mk E M') H1 → va_S (Ar E) s.heap H1 locs1 → W p l e R s m args below meth c H1 locs1 (k + mc) (n + ms) Q (F0 m (pc + 3) ls ((v.map (cv E)).toList ++ rest)))
    (kx : ∀ X, o = .inr X → ∀ (ce : Cell) (q : Addr) (H1 : Heap) (locs1 : List Loc), va_P E.2.1 vwCl (mk E M') H1 → va_S (Ar E) s.heap H1 locs1 → H1[q]? = some ce → ce.vm = .none → s.vm.findClass X = some ce.cls → vx_W p l e R s m args below meth c H1 locs1 (k + mc) (n + ms) Q (F0 m pc ls rest) q) :
    W p l e R s m args below meth c H locs k n Q (F0 m pc ls st0) := by
  intro T hT X
  rcases hr T hT X with ⟨v, st₀, t, T', L, h0, X', hL, e1, e2, ⟨v2, ho, hoc, hb, hP1, hF⟩, st⟩ | ⟨q, st₀, t, T', L, E', ce, h0, X', hL, e1, e2, ⟨ho, hP1, hF⟩, hce, hcv, hcl, st⟩
  · cases hoc
    obtain ⟨k1, k2, k3⟩ := vx_keep h0 e1 hS (fun _ _ h => h) (fun _ h => h) hL hF
    obtain ⟨t2, a1, b1⟩ := kk v2 ho hb T'.heap (locs ++ L) (by rw [e1]; exact hP1) k3 T' rfl X'
    exact ⟨t2, st t2 a1, b1⟩
  · obtain ⟨k1, k2, k3⟩ := vx_keep h0 e1 hS (fun _ _ h => h) (fun _ h => h) hL hF
    obtain ⟨t2, a1, b1⟩ := kx E' ho ce q T'.heap (locs ++ L) (by rw [e1]; exact hP1) k3 (by rw [e1]; exact hce) hcv hcl T' rfl X'
    exact ⟨t2, st.trans a1, b1⟩
end JK
/-- the words of a call of g, with np parameters: of an instance's method -/
def MV (g : MI) (np : Nat) : Prop := cdw g = Cond.code g.1 g.2.1 g.2.2.1 g.2.2.2.1 ∧ Cond.code g.1 g.2.1 g.2.2.1 g.2.2.2.1 ∈ SWL ∧ Cond.initialized g.1.cls ∈ SWL ∧ (g.1.cls ≠ "java/lang/invoke/MethodHandle" ∧ g.1.cls ≠ "java/lang/invoke/VarHandle") ∧ (parseMethodDescriptor g.1.desc).map (fun d => d.parameters.length) = some np ∧ Cond.instanceMethod g.1 ∈ SWL ∧ Cond.selects g.1.cls g.1 g.1 ∈ SWL
/-- of a static method -/
def MS (g : MI) (np : Nat) : Prop := cdw g = Cond.code g.1 g.2.1 g.2.2.1 g.2.2.2.1 ∧ Cond.code g.1 g.2.1 g.2.2.1 g.2.2.2.1 ∈ SWL ∧ Cond.initialized g.1.cls ∈ SWL ∧ (g.1.cls ≠ "java/lang/invoke/MethodHandle" ∧ g.1.cls ≠ "java/lang/invoke/VarHandle") ∧ (parseMethodDescriptor g.1.desc).map (fun d => d.parameters.length) = some np ∧ Cond.static g.1 ∈ SWL
/-- of a static method with handlers -/
def MSH (g : MI) (np : Nat) : Prop := cdw g = Cond.codeWith g.1 g.2.1 g.2.2.1 g.2.2.2.1 g.2.2.2.2.2.2.2.2 ∧ Cond.codeWith g.1 g.2.1 g.2.2.1 g.2.2.2.1 g.2.2.2.2.2.2.2.2 ∈ SWL ∧ Cond.initialized g.1.cls ∈ SWL ∧ (g.1.cls ≠ "java/lang/invoke/MethodHandle" ∧ g.1.cls ≠ "java/lang/invoke/VarHandle") ∧ (parseMethodDescriptor g.1.desc).map (fun d => d.parameters.length) = some np ∧ Cond.static g.1 ∈ SWL
/-- the room of a call of g by f, with k cells and n slots made -/
def RM (f g : MI) (k n : Nat) : Prop := (g.2.2.2.2.1 + 1 ≤ f.2.2.2.2.1 ∧ 8 + (g.2.2.1 + 11) + g.2.2.2.2.2.1 ≤ f.2.2.2.2.2.1) ∧ (k + g.2.2.2.2.2.2.1 ≤ f.2.2.2.2.2.2.1 ∧ n + g.2.2.2.2.2.2.2.1 ≤ f.2.2.2.2.2.2.2.1)
theorem np_of {d : String} {np : Nat} (h : (parseMethodDescriptor d).map (fun d => d.parameters.length) = some np) : ∀ sig, parseMethodDescriptor d = some sig → np = sig.parameters.length := by
  intro sig hs
  rw [hs] at h
  exact (Option.some.inj h).symm
theorem wsf_warm {g : MI} {a : Array Value} {s : State} (h : ∀ w ∈ SWL, w.before a s = true) (hg : cdw g ∈ SWL) : ∀ w ∈ wsf g, ∀ (a' : Array Value) (U : State), s.WarmedH U.vm → w.before a' U = true := by
  intro w hw a' U hW
  rcases List.mem_cons.mp hw with rfl | hw
  · exact SWL_warm h _ hg a' U hW
  · exact SWL_warm h w hw a' U hW
theorem cvs_sum (E : En) (st : List Value) : ((cvs E st).map fun v => v.category).sum = (st.map fun v => v.category).sum := by
  rw [List.map_map]
  congr 1
  apply List.map_congr_left
  intro v _
  exact cv_cat E v
section JC
variable {κ : Kx} {E : En} {f : MI} {Q : State → Prop} {k n : Nat} {L : List (Nat × Value)} {M : Wd} {pc : Nat}
/-- what comes behind a call: the answer, or the exception -/
def Jk (κ : Kx) (E : En) (f g : MI) (Q : State → Prop) (k n : Nat) (L : List (Nat × Value)) (M' : Wd) (pc : Nat) (rest : List Value) (o : Oc) : Prop :=
  Cx κ E f → (∀ v, o = .inl v → okB g.2.2.2.1 v → J κ E f Q (k + g.2.2.2.2.2.2.1) (n + g.2.2.2.2.2.2.2.1) L M' (pc + 3) (v.toList ++ rest)) ∧
  (∀ X, o = .inr X → ∀ (ce : Cell) (q : Addr) (H1 : Heap) (locs1 : List Loc) (ls : Array Slot), va_P E.2.1 vwCl (mk E M') H1 → va_S (Ar E) κ.2.2.2.2.1.heap H1 locs1 → lv_has ls f.2.2.1 (lvm E L) → H1[q]? = some ce → ce.vm = .none → κ.2.2.2.2.1.vm.findClass X = some ce.cls →
    vx_W κ.1 κ.2.1 κ.2.2.1 κ.2.2.2.1 κ.2.2.2.2.1 κ.2.2.2.2.2.1 κ.2.2.2.2.2.2.1 κ.2.2.2.2.2.2.2.1 κ.2.2.2.2.2.2.2.2.1 κ.2.2.2.2.2.2.2.2.2 H1 locs1 (k + g.2.2.2.2.2.2.1) (n + g.2.2.2.2.2.2.2.1) Q (F0 κ.2.2.2.2.2.1 pc ls (cvs E rest)) q)
theorem J_callV {g : MI} {np idx ci b : Nat} {o : Oc} {M' : Wd} {T : u_T} {N : Nat} {fs : List Value} {st0 : List Value} (av rest : List Value) (hg : MV g np) (hlink : Cond.methodLink f.1.cls idx g.1 ∈ SWL) (hcon : Con E g (.ref b :: av) M o M') (hj : jc E M b = .inr (ci, fs)) (hb : b < 53) (hcl : vwCl[ci]? = some (g.1.cls, T, N)) (hn : av.length = np) (hst : st0 = av.reverse ++ .ref b :: rest) (hrm : RM f g k n) (hsum : (rest.map fun v => v.category).sum ≤ 8) (hd : decode f.2.1 pc = .ok (.invokevirtual idx, 3))
    (kk : Jk κ E f g Q k n L M' pc rest o) : J κ E f Q k n L M pc st0 := by
  intro hC H locs ls hP hS hl
  obtain ⟨g1, g2, g3, g4, g5, g6, g7⟩ := hg
  obtain ⟨hx, hbt, hml, hrt, hown, hts, hlk, hR, hSx, hl0, -⟩ := id hC
  obtain ⟨kv, kx⟩ := kk hC
  subst hst
  have hrun := vx_runV (p := κ.1) (l := κ.2.1) (e := κ.2.2.1) (R := κ.2.2.2.1) (s := κ.2.2.2.2.1) (m := κ.2.2.2.2.2.1) (args := κ.2.2.2.2.2.2.1) (below := κ.2.2.2.2.2.2.2.1) (meth := κ.2.2.2.2.2.2.2.2.1) (c := κ.2.2.2.2.2.2.2.2.2) (H := H) (locs := locs) (cells := k) (slots := n)
    (C := g.1.cls) (b := adr E b) (As := cvs E av) (rest := cvs E rest) (g := F0 κ.2.2.2.2.2.1 pc ls (cvs E (av.reverse ++ .ref b :: rest))) (Ts := SWL) (own := f.1.cls) (nL := f.2.2.1) (index := idx) (maxL := g.2.2.1) (bytes := g.2.1) (ret := g.2.2.2.1)
    ⟨hx, hbt, hml, hown, hts⟩ (hcon κ.2.1 hl0) ⟨⟨rfl, rfl, by rw [hR]; exact hrm.1.1, by rw [hR]; exact hrm.1.2, wsf_warm hts (by rw [g1]; exact g2), by rw [← g1]; exact List.mem_cons_self, hts _ g2, hts _ g3, g4, np_of g5, hts _ hlink⟩, hts _ g6, hts _ g7⟩
    ⟨FB_Rl (av := .ref b :: av), va_recv hSx.1 hP hcl (by rw [mk_get hb, hj]), fun U hU hW => ⟨rfl, by rw [hU]; exact hP, hSx.to (fun _ _ h => h) hS hU hW⟩⟩ rfl (by rw [List.length_map]; exact hn) hl.1 (by simp only [cvs, List.map_append, List.map_reverse, List.map_cons]; rfl) (lv_room (by rw [cvs_sum]; exact hsum)) hd ⟨by rw [hR]; exact hrm.2.1, by rw [hR]; exact hrm.2.2⟩
  refine jrun hrun hS (fun v ho hok H1 locs1 hP1 hS1 => ?_) (fun X ho ce q H1 locs1 hP1 hS1 h1 h2 h3 => kx X ho ce q H1 locs1 ls hP1 hS1 hl h1 h2 h3)
  have h9 := kv v ho hok hC H1 locs1 ls hP1 hS1 hl
  cases v <;> exact h9
theorem J_callS {g : MI} {np idx : Nat} {o : Oc} {M' : Wd} {st0 : List Value} (av rest : List Value) (hg : MS g np) (hlink : Cond.methodLink f.1.cls idx g.1 ∈ SWL) (hcon : Con E g av M o M') (hn : av.length = np) (hst : st0 = av.reverse ++ rest) (hrm : RM f g k n) (hsum : (rest.map fun v => v.category).sum ≤ 8) (hd : decode f.2.1 pc = .ok (.invokestatic idx, 3))
    (kk : Jk κ E f g Q k n L M' pc rest o) : J κ E f Q k n L M pc st0 := by
  intro hC H locs ls hP hS hl
  obtain ⟨g1, g2, g3, g4, g5, g6⟩ := hg
  obtain ⟨hx, hbt, hml, hrt, hown, hts, hlk, hR, hSx, hl0, -⟩ := id hC
  obtain ⟨kv, kx⟩ := kk hC
  subst hst
  have hrun := vx_runS (p := κ.1) (l := κ.2.1) (e := κ.2.2.1) (R := κ.2.2.2.1) (s := κ.2.2.2.2.1) (m := κ.2.2.2.2.2.1) (args := κ.2.2.2.2.2.2.1) (below := κ.2.2.2.2.2.2.2.1) (meth := κ.2.2.2.2.2.2.2.2.1) (c := κ.2.2.2.2.2.2.2.2.2) (H := H) (locs := locs) (cells := k) (slots := n)
    (As := cvs E av) (rest := cvs E rest) (g := F0 κ.2.2.2.2.2.1 pc ls (cvs E (av.reverse ++ rest))) (Ts := SWL) (own := f.1.cls) (nL := f.2.2.1) (index := idx) (maxL := g.2.2.1) (bytes := g.2.1) (ret := g.2.2.2.1)
    ⟨hx, hbt, hml, hown, hts⟩ (hcon κ.2.1 hl0) ⟨⟨rfl, rfl, by rw [hR]; exact hrm.1.1, by rw [hR]; exact hrm.1.2, wsf_warm hts (by rw [g1]; exact g2), by rw [← g1]; exact List.mem_cons_self, hts _ g2, hts _ g3, g4, np_of g5, hts _ hlink⟩, hts _ g6⟩
    ⟨FB_Rl (av := av), fun U hU hW => ⟨rfl, by rw [hU]; exact hP, hSx.to (fun _ _ h => h) hS hU hW⟩⟩ rfl (by rw [List.length_map]; exact hn) hl.1 (by simp only [cvs, List.map_append, List.map_reverse]) (lv_room (by rw [cvs_sum]; exact hsum)) hd ⟨by rw [hR]; exact hrm.2.1, by rw [hR]; exact hrm.2.2⟩
  refine jrun hrun hS (fun v ho hok H1 locs1 hP1 hS1 => ?_) (fun X ho ce q H1 locs1 hP1 hS1 h1 h2 h3 => kx X ho ce q H1 locs1 ls hP1 hS1 hl h1 h2 h3)
  have h9 := kv v ho hok hC H1 locs1 ls hP1 hS1 hl
  cases v <;> exact h9
/-- a static method with handlers -/
theorem J_callSX {g : MI} {np idx : Nat} {o : Oc} {M' : Wd} {st0 : List Value} (av rest : List Value) (hg : MSH g np) (hlink : Cond.methodLink f.1.cls idx g.1 ∈ SWL) (hcon : Con E g av M o M') (hn : av.length = np) (hst : st0 = av.reverse ++ rest) (hrm : RM f g k n) (hsum : (rest.map fun v => v.category).sum ≤ 8) (hd : decode f.2.1 pc = .ok (.invokestatic idx, 3))
    (kk : Jk κ E f g Q k n L M' pc rest o) : J κ E f Q k n L M pc st0 := by
  intro hC H locs ls hP hS hl
  obtain ⟨g1, g2, g3, g4, g5, g6⟩ := hg
  obtain ⟨hx, hbt, hml, hrt, hown, hts, hlk, hR, hSx, hl0, -⟩ := id hC
  obtain ⟨kv, kx⟩ := kk hC
  subst hst
  have hrun := vx_runSX (p := κ.1) (l := κ.2.1) (e := κ.2.2.1) (R := κ.2.2.2.1) (s := κ.2.2.2.2.1) (m := κ.2.2.2.2.2.1) (args := κ.2.2.2.2.2.2.1) (below := κ.2.2.2.2.2.2.2.1) (meth := κ.2.2.2.2.2.2.2.2.1) (c := κ.2.2.2.2.2.2.2.2.2) (H := H) (locs := locs) (cells := k) (slots := n)
    (As := cvs E av) (rest := cvs E rest) (g := F0 κ.2.2.2.2.2.1 pc ls (cvs E (av.reverse ++ rest))) (Ts := SWL) (own := f.1.cls) (nL := f.2.2.1) (index := idx) (maxL := g.2.2.1) (bytes := g.2.1) (ret := g.2.2.2.1) (hh := g.2.2.2.2.2.2.2.2)
    ⟨hx, hbt, hml, hown, hts⟩ (hcon κ.2.1 hl0) ⟨⟨rfl, rfl, by rw [hR]; exact hrm.1.1, by rw [hR]; exact hrm.1.2, wsf_warm hts (by rw [g1]; exact g2), by rw [← g1]; exact List.mem_cons_self⟩, hts _ g2, hts _ g3, g4, np_of g5, hts _ hlink, hts _ g6⟩
    ⟨FB_Rl (av := av), fun U hU hW => ⟨rfl, by rw [hU]; exact hP, hSx.to (fun _ _ h => h) hS hU hW⟩⟩ rfl (by rw [List.length_map]; exact hn) hl.1 (by simp only [cvs, List.map_append, List.map_reverse]) (lv_room (by rw [cvs_sum]; exact hsum)) hd ⟨by rw [hR]; exact hrm.2.1, by rw [hR]; exact hrm.2.2⟩
  refine jrun hrun hS (fun v ho hok H1 locs1 hP1 hS1 => ?_) (fun X ho ce q H1 locs1 hP1 hS1 h1 h2 h3 => kx X ho ce q H1 locs1 ls hP1 hS1 hl h1 h2 h3)
  have h9 := kv v ho hok hC H1 locs1 ls hP1 hS1 hl
  cases v <;> exact h9
/-- a nest mate's private static method -/
theorem J_callSN {g : MI} {np idx : Nat} {host : String} {o : Oc} {M' : Wd} {st0 : List Value} (av rest : List Value) (hg : MS g np) (hlink : Cond.methodLinkNest f.1.cls idx g.1 host ∈ SWL) (hcon : Con E g av M o M') (hn : av.length = np) (hst : st0 = av.reverse ++ rest) (hrm : RM f g k n) (hsum : (rest.map fun v => v.category).sum ≤ 8) (hd : decode f.2.1 pc = .ok (.invokestatic idx, 3))
    (kk : Jk κ E f g Q k n L M' pc rest o) : J κ E f Q k n L M pc st0 := by
  intro hC H locs ls hP hS hl
  obtain ⟨g1, g2, g3, g4, g5, g6⟩ := hg
  obtain ⟨hx, hbt, hml, hrt, hown, hts, hlk, hR, hSx, hl0, -⟩ := id hC
  obtain ⟨kv, kx⟩ := kk hC
  subst hst
  have hrun := vx_runSN (p := κ.1) (l := κ.2.1) (e := κ.2.2.1) (R := κ.2.2.2.1) (s := κ.2.2.2.2.1) (m := κ.2.2.2.2.2.1) (args := κ.2.2.2.2.2.2.1) (below := κ.2.2.2.2.2.2.2.1) (meth := κ.2.2.2.2.2.2.2.2.1) (c := κ.2.2.2.2.2.2.2.2.2) (H := H) (locs := locs) (cells := k) (slots := n)
    (As := cvs E av) (rest := cvs E rest) (g := F0 κ.2.2.2.2.2.1 pc ls (cvs E (av.reverse ++ rest))) (Ts := SWL) (own := f.1.cls) (nL := f.2.2.1) (index := idx) (maxL := g.2.2.1) (bytes := g.2.1) (ret := g.2.2.2.1) (host := host)
    ⟨hx, hbt, hml, hown, hts⟩ (hcon κ.2.1 hl0) ⟨⟨⟨rfl, rfl, by rw [hR]; exact hrm.1.1, by rw [hR]; exact hrm.1.2, wsf_warm hts (by rw [g1]; exact g2), by rw [← g1]; exact List.mem_cons_self⟩, hts _ g2, hts _ g3, g4, np_of g5, hts _ hlink⟩, hts _ g6, trivial⟩
    ⟨FB_Rl (av := av), fun U hU hW => ⟨rfl, by rw [hU]; exact hP, hSx.to (fun _ _ h => h) hS hU hW⟩⟩ rfl (by rw [List.length_map]; exact hn) hl.1 (by simp only [cvs, List.map_append, List.map_reverse]) (lv_room (by rw [cvs_sum]; exact hsum)) hd ⟨by rw [hR]; exact hrm.2.1, by rw [hR]; exact hrm.2.2⟩
  refine jrun hrun hS (fun v ho hok H1 locs1 hP1 hS1 => ?_) (fun X ho ce q H1 locs1 hP1 hS1 h1 h2 h3 => kx X ho ce q H1 locs1 ls hP1 hS1 hl h1 h2 h3)
  have h9 := kv v ho hok hC H1 locs1 ls hP1 hS1 hl
  cases v <;> exact h9
/-- it returned -/
theorem Jk_ret {g : MI} {M' : Wd} {rest : List Value} {v : Option Value} (kk : okB g.2.2.2.1 v → J κ E f Q (k + g.2.2.2.2.2.2.1) (n + g.2.2.2.2.2.2.2.1) L M' (pc + 3) (v.toList ++ rest)) : Jk κ E f g Q k n L M' pc rest (.inl v) :=
  fun _ => ⟨fun _ ho hok => by cases ho; exact kk hok, fun _ ho => by cases ho⟩
/-- it threw, and f has no handlers -/
theorem Jk_out {g : MI} {M' M'' : Wd} {rest : List Value} {o : Oc} {X : String} (hh0 : f.2.2.2.2.2.2.2.2 = []) (ho : o = .inr X) (hM : M' = M'') (hrm : RM f g k n) : Jk κ E f g (Qm κ E f o M'') k n L M' pc rest (.inr X) := by
  subst ho; subst hM
  intro hC
  refine ⟨fun _ ho => (by cases ho), fun X' ho ce q H1 locs1 ls hP1 hS1 hl h1 h2 h3 => ?_⟩
  cases ho
  obtain ⟨-, -, -, -, -, -, hlk, -, -, -, -, het⟩ := hC
  refine vx_out (fun x hx => ?_) hlk h1 h2 h3 (fun t ht _ => ⟨rfl, by rw [ht]; exact hP1, hS1.F ht⟩) hS1.2.2 hrm.2.1 hrm.2.2
  rw [het, hh0] at hx
  cases hx
end JC
end
section
/-! ===== J: throws, catches ===== -/
theorem stW_ot {w : Cond} (h : stW w = true) : vx_ot w = true := by
  unfold stW at h
  split at h
  · rfl
  · rfl
  · rfl
  · simp only [vx_ot, h, Bool.or_true]
section JT
variable {κ : Kx} {E : En} {f : MI} {Q : State → Prop} {k n : Nat} {L : List (Nat × Value)} {M M' : Wd} {pc : Nat} {st : List Value}
theorem J_thrown {o : Oc} {X : String} {H : Heap} {locs : List Loc} (ho : o = .inr X) (hP : va_P E.2.1 vwCl (mk E M) H) (hS : va_S (Ar E) κ.2.2.2.2.1.heap H locs) : ∀ t : State, κ.2.2.2.2.1.vm.Alike t.vm → H.size ≤ t.heap.size → (∀ q : Nat, q < H.size → t.heap[q]? = H[q]?) → XV E o M X κ.2.2.2.2.1 t :=
  fun t _ hz hq => ⟨ho, hP.kept fun _ _ hk => hq _ (vx_lt hP hk), Nat.le_trans hS.1 hz, fun q h1 h2 => by rw [hq q (Nat.lt_of_lt_of_le h1 hS.1)]; exact hS.2.1 q h1 h2⟩
/-- throw new X("text") -/
theorem J_throwS {o : Oc} {X text : String} {ik is ic : Nat} (ho : o = .inr X) (hM : M = M') (hh0 : f.2.2.2.2.2.2.2.2 = []) (hcls : Bundle.fit X = true) (hk : Cond.classLink f.1.cls ik X ∈ SWL) (hini : Cond.initialized X ∈ SWL) (hstr : (f.1.cls, is, text) ∈ strL) (hat : ∀ w ∈ vx_atS f.1.cls ic X ["java/lang/RuntimeException", "java/lang/Exception"], w ∈ SWL)
    (d0 : decode f.2.1 pc = .ok (.new ik, 3)) (d3 : decode f.2.1 (pc + 3) = .ok (.dup, 1)) (d4 : decode f.2.1 (pc + 4) = .ok (.ldc is, 2)) (d6 : decode f.2.1 (pc + 6) = .ok (.invokespecial ic, 3)) (d9 : decode f.2.1 (pc + 9) = .ok (.athrow, 1))
    (hrm : (5 < f.2.2.2.2.1 ∧ (st.map fun v => v.category).sum + 82 ≤ f.2.2.2.2.2.1) ∧ k + 1 ≤ f.2.2.2.2.2.2.1 ∧ n + 6 ≤ f.2.2.2.2.2.2.2.1) : J κ E f (Qm κ E f o M') k n L M pc st := by
  subst hM
  intro hC H locs ls hP hS hl
  obtain ⟨hx, hb, hml, hrt, hown, hts, hlk, hR, hSx, hl0, -, het⟩ := hC
  obtain ⟨sa, hsa⟩ := hSx.2.2.2.1 _ hstr
  exact vx_throwS (names := ["java/lang/RuntimeException", "java/lang/Exception"]) hx hb hl0 hown hcls (by decide +kernel) (hts _ hk) (hts _ hini) hsa (fun w hw => hts w (hat w hw))
    (fun w hw => by
      rcases List.mem_cons.mp hw with rfl | hw
      · exact stW_ot (List.mem_filter.mp hk).2
      · rcases List.mem_cons.mp hw with rfl | hw
        · exact stW_ot (List.mem_filter.mp hini).2
        · exact stW_ot (List.mem_filter.mp (hat w hw)).2)
    hSx.2.1 hSx.2.2.1 hS (by rw [hl.1, hml]) d0 d3 d4 d6 d9 (fun x h => by rw [het, hh0] at h; cases h) (by rw [hR]; exact hrm.1.1) (by rw [hR, cvs_sum]; exact hrm.1.2) (by rw [hR]; exact hrm.2.1) (by rw [hR]; exact hrm.2.2) hlk (J_thrown ho hP hS) hS.2.2 hrm.2.1 hrm.2.2
/-- the same, the text by a wide index -/
theorem J_throwSW {o : Oc} {X text : String} {ik is ic : Nat} (ho : o = .inr X) (hM : M = M') (hh0 : f.2.2.2.2.2.2.2.2 = []) (hcls : Bundle.fit X = true) (hk : Cond.classLink f.1.cls ik X ∈ SWL) (hini : Cond.initialized X ∈ SWL) (hstr : (f.1.cls, is, text) ∈ strL) (hat : ∀ w ∈ vx_atS f.1.cls ic X ["java/lang/RuntimeException", "java/lang/Exception"], w ∈ SWL)
    (d0 : decode f.2.1 pc = .ok (.new ik, 3)) (d3 : decode f.2.1 (pc + 3) = .ok (.dup, 1)) (d4 : decode f.2.1 (pc + 4) = .ok (.ldc_w is, 3)) (d7 : decode f.2.1 (pc + 7) = .ok (.invokespecial ic, 3)) (d10 : decode f.2.1 (pc + 10) = .ok (.athrow, 1))
    (hrm : (5 < f.2.2.2.2.1 ∧ (st.map fun v => v.category).sum + 82 ≤ f.2.2.2.2.2.1) ∧ k + 1 ≤ f.2.2.2.2.2.2.1 ∧ n + 6 ≤ f.2.2.2.2.2.2.2.1) : J κ E f (Qm κ E f o M') k n L M pc st := by
  subst hM
  intro hC H locs ls hP hS hl
  obtain ⟨hx, hb, hml, hrt, hown, hts, hlk, hR, hSx, hl0, -, het⟩ := hC
  obtain ⟨sa, hsa⟩ := hSx.2.2.2.1 _ hstr
  exact vx_throwSW (names := ["java/lang/RuntimeException", "java/lang/Exception"]) hx hb hl0 hown hcls (by decide +kernel) (hts _ hk) (hts _ hini) hsa (fun w hw => hts w (hat w hw))
    (fun w hw => by
      rcases List.mem_cons.mp hw with rfl | hw
      · exact stW_ot (List.mem_filter.mp hk).2
      · rcases List.mem_cons.mp hw with rfl | hw
        · exact stW_ot (List.mem_filter.mp hini).2
        · exact stW_ot (List.mem_filter.mp (hat w hw)).2)
    hSx.2.1 hSx.2.2.1 hS (by rw [hl.1, hml]) d0 d3 d4 d7 d10 (fun x h => by rw [het, hh0] at h; cases h) (by rw [hR]; exact hrm.1.1) (by rw [hR, cvs_sum]; exact hrm.1.2) (by rw [hR]; exact hrm.2.1) (by rw [hR]; exact hrm.2.2) hlk (J_thrown ho hP hS) hS.2.2 hrm.2.1 hrm.2.2
theorem adr_raw (E : En) (q : Nat) : adr E (q + 64) = q := by
  unfold adr
  rw [if_neg (by omega), if_neg (by omega)]
  omega
/-- caught by the row x of f's table -/
theorem Jk_catch {g : MI} {rest : List Value} {X : String} (pre suf : List (Nat × Nat × Nat × Nat)) (x : Nat × Nat × Nat × Nat) (hsplit : f.2.2.2.2.2.2.2.2 = pre ++ x :: suf) (hpass : ∀ z ∈ pre, z.2.2.2 ≠ 0 ∧ ∃ nm : String, Cond.classLink f.1.cls z.2.2.2 nm ∈ SWL ∧ (X, nm) ∈ ncL) (hx : covers ⟨x.1, x.2.1, x.2.2.1, x.2.2.2⟩ pc = true) (h0 : x.2.2.2 ≠ 0) (hlink : Cond.classLink f.1.cls x.2.2.2 X ∈ SWL) (hcast : Cond.castable X X ∈ SWL)
    (kk : ∀ q : Nat, J κ E f Q (k + g.2.2.2.2.2.2.1) (n + g.2.2.2.2.2.2.2.1) L M' x.2.2.1 [.ref (q + 64)]) : Jk κ E f g Q k n L M' pc rest (.inr X) := by
  intro hC
  refine ⟨fun _ ho => (by cases ho), fun X' ho ce q H1 locs1 ls hP1 hS1 hl h1 h2 h3 => ?_⟩
  cases ho
  have h9 := kk q hC H1 locs1 ls hP1 hS1 hl
  obtain ⟨hx0, hb, hml, hrt, hown, hts, hlk, hR, hSx, hl0, -, het⟩ := hC
  refine vx_catch hown (pre.map fun q => ⟨q.1, q.2.1, q.2.2.1, q.2.2.2⟩) ⟨x.1, x.2.1, x.2.2.1, x.2.2.2⟩ (suf.map fun q => ⟨q.1, q.2.1, q.2.2.1, q.2.2.2⟩) (by rw [het, hsplit]; simp [tableOf]) (fun z hz => ?_) hx h0 (hts _ hlink) (hts _ hcast) h1 h2 h3 ?_
  · obtain ⟨z', hz', rfl⟩ := List.mem_map.mp hz
    obtain ⟨e1, nm, e2, e3⟩ := hpass z' hz'
    exact Or.inr ⟨e1, nm, hts _ e2, hSx.2.2.2.2 _ e3⟩
  · have h8 : cvs E [Value.ref (q + 64)] = [.ref q] := by
      show [Value.ref (adr E (q + 64))] = [.ref q]
      rw [adr_raw]
    rw [h8] at h9
    exact h9
end JT
end
section
/-! ===== what the decompiled functions are written in ===== -/
def bnd {α β : Type} (a : α) (g : α → β) : β := g a
theorem bnd_e {α β : Type} {a : α} {g : α → β} {r : β} (h : bnd a g = r) : ∃ v, v = a ∧ g v = r := ⟨a, rfl, h⟩
def obind {α β : Type} (a : Option α) (g : α → Option β) : Option β := match a with
  | some v => g v
  | none => none
theorem obind_e {α β : Type} {a : Option α} {g : α → Option β} {r : β} (h : obind a g = some r) : ∃ v, a = some v ∧ g v = some r := by
  cases a with
  | none => cases h
  | some v => exact ⟨v, rfl, h⟩
def obind2 {α β γ : Type} (a : Option (α × β)) (g : α → β → Option γ) : Option γ := match a with
  | some (v, w) => g v w
  | none => none
theorem obind2_e {α β γ : Type} {a : Option (α × β)} {g : α → β → Option γ} {r : γ} (h : obind2 a g = some r) : ∃ v w, a = some (v, w) ∧ g v w = some r := by
  cases a with
  | none => cases h
  | some v => exact ⟨v.1, v.2, rfl, h⟩
def obind3 {α β γ δ : Type} (a : Option (α × β × γ)) (g : α → β → γ → Option δ) : Option δ := match a with
  | some (u, v, w) => g u v w
  | none => none
theorem obind3_e {α β γ δ : Type} {a : Option (α × β × γ)} {g : α → β → γ → Option δ} {r : δ} (h : obind3 a g = some r) : ∃ u v w, a = some (u, v, w) ∧ g u v w = some r := by
  cases a with
  | none => cases h
  | some v => exact ⟨v.1, v.2.1, v.2.2, rfl, h⟩
def obind4 {α β γ δ ε : Type} (a : Option (α × β × γ × δ)) (g : α → β → γ → δ → Option ε) : Option ε := match a with
  | some (u, v, w, x) => g u v w x
  | none => none
theorem obind4_e {α β γ δ ε : Type} {a : Option (α × β × γ × δ)} {g : α → β → γ → δ → Option ε} {r : ε} (h : obind4 a g = some r) : ∃ u v w x, a = some (u, v, w, x) ∧ g u v w x = some r := by
  cases a with
  | none => cases h
  | some v => exact ⟨v.1, v.2.1, v.2.2.1, v.2.2.2, rfl, h⟩
/-- a call that may throw: its value and world, or the exception's number (1 index, 2 argument, 3 state) and world -/
def obindX {α γ : Type} (a : Option ((α ⊕ Nat) × Wd)) (g : α → Wd → Option γ) (gx : Nat → Wd → Option γ) : Option γ := match a with
  | some (.inl v, M) => g v M
  | some (.inr x, M) => gx x M
  | none => none
theorem obindX_e {α γ : Type} {a : Option ((α ⊕ Nat) × Wd)} {g : α → Wd → Option γ} {gx : Nat → Wd → Option γ} {r : γ} (h : obindX a g gx = some r) : (∃ v M, a = some (.inl v, M) ∧ g v M = some r) ∨ ∃ x M, a = some (.inr x, M) ∧ gx x M = some r := by
  match a, h with
  | some (.inl v, M), h => exact Or.inl ⟨v, M, rfl, h⟩
  | some (.inr x, M), h => exact Or.inr ⟨x, M, rfl, h⟩
/-- a load from an int array of N places -/
def ldi {β : Type} (a : Nat → Int32) (N : Nat) (i : Int32) (g : Int32 → Option β) : Option β := if i < 0 ∨ N ≤ i.toNatClampNeg then none else g (a i.toNatClampNeg)
theorem ldi_e {β : Type} {a : Nat → Int32} {N : Nat} {i : Int32} {g : Int32 → Option β} {r : β} (h : ldi a N i g = some r) : ∃ v, v = a i.toNatClampNeg ∧ vp_in i N ∧ g v = some r := by
  unfold ldi at h
  by_cases c : i < 0 ∨ N ≤ i.toNatClampNeg
  · rw [if_pos c] at h; cases h
  · rw [if_neg c] at h; exact ⟨_, rfl, c, h⟩
/-- an index within -/
def inb {β : Type} (N : Nat) (i : Int32) (k : Option β) : Option β := if i < 0 ∨ N ≤ i.toNatClampNeg then none else k
theorem inb_e {β : Type} {N : Nat} {i : Int32} {k : Option β} {r : β} (h : inb N i k = some r) : vp_in i N ∧ k = some r := by
  unfold inb at h
  by_cases c : i < 0 ∨ N ≤ i.toNatClampNeg
  · rw [if_pos c] at h; cases h
  · rw [if_neg c] at h; exact ⟨c, h⟩
/-- a truth value -/
def chB {β : Type} (x : Int32) (k : Option β) : Option β := if x = 0 ∨ x = 1 then k else none
theorem chB_e {β : Type} {x : Int32} {k : Option β} {r : β} (h : chB x k = some r) : isB x ∧ k = some r := by
  unfold chB at h
  by_cases c : x = 0 ∨ x = 1
  · rw [if_pos c] at h; exact ⟨c, h⟩
  · rw [if_neg c] at h; cases h
/-- what must hold -/
def grd {β : Type} (c : Prop) [Decidable c] (k : Option β) : Option β := if c then k else none
theorem grd_e {β : Type} {c : Prop} [Decidable c] {k : Option β} {r : β} (h : grd c k = some r) : c ∧ k = some r := by
  unfold grd at h
  by_cases hc : c
  · rw [if_pos hc] at h; exact ⟨hc, h⟩
  · rw [if_neg hc] at h; cases h
theorem isB_ite {c : Prop} [Decidable c] {x y : Int32} (hx : isB x) (hy : isB y) : isB (if c then x else y) := by
  by_cases h : c
  · rw [if_pos h]; exact hx
  · rw [if_neg h]; exact hy
theorem okB_b {x : Int32} (h : okB (some .boolean) (some (.int x))) : isB x := by
  obtain ⟨y, h1, h2⟩ := h rfl
  cases h1
  exact h2
theorem nar_b {x : Int32} (E : En) (h : isB x) : narrow .boolean (cv E (.int x)) = cv E (.int x) := by rcases h with h | h <;> rw [h] <;> rfl
theorem fit_b {x : Int32} (E : En) (h : isB x) : fits .boolean (cv E (.int x)) = true := by rcases h with h | h <;> rw [h] <;> rfl
theorem vp_b {x : Int32} (h : isB x) : vp_nar .boolean x = x := by rcases h with h | h <;> rw [h] <;> rfl
theorem vpc {i : Int32} {N : Nat} (h : (decide (i < 0) || decide (N ≤ i.toNatClampNeg)) = false) : vp_in i N := by
  simp only [Bool.or_eq_false_iff, decide_eq_false_iff_not] at h
  exact fun q => q.elim h.1 h.2
def fuelN : Nat := 1000000000000
section JX
variable {κ : Kx} {E : En} {f : MI} {Q : State → Prop} {k n : Nat} {L L' : List (Nat × Value)} {M M' : Wd} {pc : Nat} {st : List Value}
theorem J_topi {x y : Int32} (h : y = x) (kk : J κ E f Q k n L M pc (.int y :: st)) : J κ E f Q k n L M pc (.int x :: st) := h ▸ kk
theorem J_topl {x y : Int64} (h : y = x) (kk : J κ E f Q k n L M pc (.long y :: st)) : J κ E f Q k n L M pc (.long x :: st) := h ▸ kk
theorem J_topd {x y : UInt64} (h : y = x) (kk : J κ E f Q k n L M pc (.double y :: st)) : J κ E f Q k n L M pc (.double x :: st) := h ▸ kk
theorem J_topa {x y : Nat} (h : y = x) (kk : J κ E f Q k n L M pc (.ref y :: st)) : J κ E f Q k n L M pc (.ref x :: st) := h ▸ kk
theorem J_M (M' : Wd) (h : M = M') (kk : J κ E f Q k n L M' pc st) : J κ E f Q k n L M pc st := h ▸ kk
/-- it returned a value, and made nothing -/
theorem Jk_v {g : MI} {rest : List Value} {v : Value} (h1 : g.2.2.2.2.2.2.1 = 0) (h2 : g.2.2.2.2.2.2.2.1 = 0) (kk : okB g.2.2.2.1 (some v) → J κ E f Q k n L M' (pc + 3) (v :: rest)) : Jk κ E f g Q k n L M' pc rest (.inl (some v)) :=
  Jk_ret fun hok => by rw [h1, h2]; exact kk hok
theorem Jk_0 {g : MI} {rest : List Value} (h1 : g.2.2.2.2.2.2.1 = 0) (h2 : g.2.2.2.2.2.2.2.1 = 0) (kk : J κ E f Q k n L M' (pc + 3) rest) : Jk κ E f g Q k n L M' pc rest (.inl none) :=
  Jk_ret fun _ => by rw [h1, h2]; exact kk
/-- it returned, and may have made something -/
theorem Jk_vk {g : MI} {rest : List Value} {v : Value} (k' n' : Nat) (h1 : k + g.2.2.2.2.2.2.1 = k') (h2 : n + g.2.2.2.2.2.2.2.1 = n') (kk : okB g.2.2.2.1 (some v) → J κ E f Q k' n' L M' (pc + 3) (v :: rest)) : Jk κ E f g Q k n L M' pc rest (.inl (some v)) :=
  Jk_ret fun hok => by rw [h1, h2]; exact kk hok
theorem Jk_0k {g : MI} {rest : List Value} (k' n' : Nat) (h1 : k + g.2.2.2.2.2.2.1 = k') (h2 : n + g.2.2.2.2.2.2.2.1 = n') (kk : J κ E f Q k' n' L M' (pc + 3) rest) : Jk κ E f g Q k n L M' pc rest (.inl none) :=
  Jk_ret fun _ => by rw [h1, h2]; exact kk
end JX
/-- exceptions by number -/
def xcls (x : Nat) : String := if x = 1 then "java/lang/IndexOutOfBoundsException" else if x = 2 then "java/lang/IllegalArgumentException" else "java/lang/IllegalStateException"
theorem ifp {c : Prop} [Decidable c] {α : Type} {a b r : α} (hc : c) (h : (if c then a else b) = r) : a = r := by rw [if_pos hc] at h; exact h
theorem ifn {c : Prop} [Decidable c] {α : Type} {a b r : α} (hc : ¬ c) (h : (if c then a else b) = r) : b = r := by rw [if_neg hc] at h; exact h
def ocI (r : Int32 ⊕ Nat) : Oc := match r with
  | .inl v => .inl (some (.int v))
  | .inr x => .inr (xcls x)
def ocL (r : Int64 ⊕ Nat) : Oc := match r with
  | .inl v => .inl (some (.long v))
  | .inr x => .inr (xcls x)
def ocD (r : UInt64 ⊕ Nat) : Oc := match r with
  | .inl v => .inl (some (.double v))
  | .inr x => .inr (xcls x)
def ocV (r : Unit ⊕ Nat) : Oc := match r with
  | .inl _ => .inl none
  | .inr x => .inr (xcls x)
section JY
variable {κ : Kx} {E : En} {f : MI} {Q : State → Prop} {k n : Nat} {L : List (Nat × Value)} {M : Wd} {pc : Nat} {st : List Value}
theorem J_join (L' : List (Nat × Value)) (M' : Wd) (pc' : Nat) (st' : List Value) (hJ : J κ E f Q k n L' M' pc' st') (kk : J κ E f Q k n L' M' pc' st' → J κ E f Q k n L M pc st) : J κ E f Q k n L M pc st := kk hJ
theorem J_LS (L' : List (Nat × Value)) (st' : List Value) (h1 : L = L') (h2 : st = st') (kk : J κ E f Q k n L' M pc st') : J κ E f Q k n L M pc st := by subst h1; subst h2; exact kk
theorem J_d2raw {i : Nat} {b : UInt64} (hlink : Cond.methodLink f.1.cls i ⟨"java/lang/Double", "doubleToRawLongBits", "(D)J"⟩ ∈ SWL) (hnat : Cond.native ⟨"java/lang/Double", "doubleToRawLongBits", "(D)J"⟩ ∈ SWL) (hstat : Cond.static ⟨"java/lang/Double", "doubleToRawLongBits", "(D)J"⟩ ∈ SWL) (hini : Cond.initialized "java/lang/Double" ∈ SWL) (hf : 1 ≤ f.2.2.2.2.1) (hl2 : (st.map fun v => v.category).sum + 15 ≤ f.2.2.2.2.2.1) (hd : decode f.2.1 pc = .ok (.invokestatic i, 3))
    (kk : J κ E f Q k n L M (pc + 3) (.long b.toInt64 :: st)) : J κ E f Q k n L M pc (.double b :: st) := by
  intro hC H locs ls hP hS hl
  obtain ⟨hx, hbt, hml, hrt, hown, hts, hlk, hR, hSx, hl0, -⟩ := id hC
  exact vn_d2l hx hbt (by rw [hml, hl.1]) hown (hts _ hlink) (hts _ hnat) (hts _ hstat) (hts _ hini) (by rw [hR]; exact hf) (by rw [hR, cvs_sum]; exact hl2) hd (kk hC H locs ls hP hS hl)
end JY
end
section
/-! ===== Math.max, min, abs ===== -/
def F_max (x y : Int32) : Int32 := if x < y then y else x
def F_min (x y : Int32) : Int32 := if y < x then y else x
def F_abs (x : Int32) : Int32 := if 0 ≤ x then x else 0 - x
section JZ
variable {κ : Kx} {E : En} {f : MI} {Q : State → Prop} {k n : Nat} {L : List (Nat × Value)} {M : Wd} {pc : Nat} {st : List Value}
theorem J_mmax {i : Nat} {x y : Int32} (hlink : Cond.methodLink f.1.cls i yJ9_max_7cf53 ∈ SWL) (hcode : Cond.code yJ9_max_7cf53 cJ9_max_7cf53 2 (some .int) ∈ SWL) (hstat : Cond.static yJ9_max_7cf53 ∈ SWL) (hini : Cond.initialized "java/lang/Math" ∈ SWL) (hf : 1 ≤ f.2.2.2.2.1) (hl2 : (st.map fun v => v.category).sum + 13 ≤ f.2.2.2.2.2.1) (hk : k ≤ f.2.2.2.2.2.2.1) (hn : n ≤ f.2.2.2.2.2.2.2.1) (hd : decode f.2.1 pc = .ok (.invokestatic i, 3))
    (kk : J κ E f Q k n L M (pc + 3) (.int (F_max x y) :: st)) : J κ E f Q k n L M pc (.int y :: .int x :: st) := by
  intro hC H locs ls hP hS hl
  obtain ⟨hx, hbt, hml, hrt, hown, hts, hlk, hR, hSx, hl0, -⟩ := id hC
  have e1 : Lib.Math.max.name = yJ9_max_7cf53 := rfl
  have e2 : Lib.Math.max.code = cJ9_max_7cf53 := rfl
  exact va_mmax hx hbt (by rw [hml, hl.1]) hown (by rw [e1]; exact hts _ hlink) (by rw [e1]; exact hts _ hstat) (hts _ hini) (by rw [e1, e2]; exact hts _ hcode) (by rw [hR]; exact hf) (by rw [hR, cvs_sum]; exact hl2) (by rw [hR]; exact hk) (by rw [hR]; exact hn) hd (kk hC H locs ls hP hS hl)
theorem J_mmin {i : Nat} {x y : Int32} (hlink : Cond.methodLink f.1.cls i yJ9_min_7cf53 ∈ SWL) (hcode : Cond.code yJ9_min_7cf53 cJ9_min_7cf53 2 (some .int) ∈ SWL) (hstat : Cond.static yJ9_min_7cf53 ∈ SWL) (hini : Cond.initialized "java/lang/Math" ∈ SWL) (hf : 1 ≤ f.2.2.2.2.1) (hl2 : (st.map fun v => v.category).sum + 13 ≤ f.2.2.2.2.2.1) (hk : k ≤ f.2.2.2.2.2.2.1) (hn : n ≤ f.2.2.2.2.2.2.2.1) (hd : decode f.2.1 pc = .ok (.invokestatic i, 3))
    (kk : J κ E f Q k n L M (pc + 3) (.int (F_min x y) :: st)) : J κ E f Q k n L M pc (.int y :: .int x :: st) := by
  intro hC H locs ls hP hS hl
  obtain ⟨hx, hbt, hml, hrt, hown, hts, hlk, hR, hSx, hl0, -⟩ := id hC
  have e1 : Lib.Math.min.name = yJ9_min_7cf53 := rfl
  have e2 : Lib.Math.min.code = cJ9_min_7cf53 := rfl
  exact va_mmin hx hbt (by rw [hml, hl.1]) hown (by rw [e1]; exact hts _ hlink) (by rw [e1]; exact hts _ hstat) (hts _ hini) (by rw [e1, e2]; exact hts _ hcode) (by rw [hR]; exact hf) (by rw [hR, cvs_sum]; exact hl2) (by rw [hR]; exact hk) (by rw [hR]; exact hn) hd (kk hC H locs ls hP hS hl)
theorem J_mabs {i : Nat} {x : Int32} (hlink : Cond.methodLink f.1.cls i yJ9_abs_0f7a4 ∈ SWL) (hcode : Cond.code yJ9_abs_0f7a4 cJ9_abs_0f7a4 1 (some .int) ∈ SWL) (hstat : Cond.static yJ9_abs_0f7a4 ∈ SWL) (hini : Cond.initialized "java/lang/Math" ∈ SWL) (hf : 1 ≤ f.2.2.2.2.1) (hl2 : (st.map fun v => v.category).sum + 13 ≤ f.2.2.2.2.2.1) (hk : k ≤ f.2.2.2.2.2.2.1) (hn : n ≤ f.2.2.2.2.2.2.2.1) (hd : decode f.2.1 pc = .ok (.invokestatic i, 3))
    (kk : J κ E f Q k n L M (pc + 3) (.int (F_abs x) :: st)) : J κ E f Q k n L M pc (.int x :: st) := by
  intro hC H locs ls hP hS hl
  obtain ⟨hx, hbt, hml, hrt, hown, hts, hlk, hR, hSx, hl0, -⟩ := id hC
  have e1 : Lib.Math.abs.name = yJ9_abs_0f7a4 := rfl
  have e2 : Lib.Math.abs.code = cJ9_abs_0f7a4 := rfl
  exact va_mabs hx hbt (by rw [hml, hl.1]) hown (by rw [e1]; exact hts _ hlink) (by rw [e1]; exact hts _ hstat) (hts _ hini) (by rw [e1, e2]; exact hts _ hcode) (by rw [hR]; exact hf) (by rw [hR, cvs_sum]; exact hl2) (by rw [hR]; exact hk) (by rw [hR]; exact hn) hd (kk hC H locs ls hP hS hl)
end JZ
end
