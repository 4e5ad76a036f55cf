/-! ===== J: calls, throws, catches ===== -/
theorem FB_Rl {E : En} {av : List Value} {M : Wd} : FrameBlind (va_Pc (cvs E av) (Rl E M)) := fun a _ g mk' q => ⟨q.1, q.2.1, q.2.2.calling g mk' a⟩
section JK
variable {p : Program} {l : Launch} {e : Env} {R : Room} {s : State} {m : MethodId} {args : Array Value} {below : List Frame} {meth : Method} {c : Code} {H : Heap} {locs : List Loc} {k n : Nat} {Q : State → Prop}
theorem jrun {E : En} {g : MI} {o : Oc} {M' : Wd} {mc ms pc : Nat} {ls : Array Slot} {st0 rest : List Value} {a : Array Value}
    (hr : vx_Run p l e R s m args below meth c H locs k n mc ms (F0 m pc ls st0) rest (QV E g o M' a) (XV E o M') (Ar E)) (hS : va_S (Ar E) s.heap H locs)
    (kk : ∀ v, o = .inl v → okB g.2.2.2.1 v → ∀ (H1 : Heap) (locs1 : List Loc), va_P E.2.1 vwCl (mk E M') H1 → va_S (Ar E) s.heap H1 locs1 → W p l e R s m args below meth c H1 locs1 (k + mc) (n + ms) Q (F0 m (pc + 3) ls ((v.map (cv E)).toList ++ rest)))
    (kx : ∀ X, o = .inr X → ∀ (ce : Cell) (q : Addr) (H1 : Heap) (locs1 : List Loc), va_P E.2.1 vwCl (mk E M') H1 → va_S (Ar E) s.heap H1 locs1 → H1[q]? = some ce → ce.vm = .none → s.vm.findClass X = some ce.cls → vx_W p l e R s m args below meth c H1 locs1 (k + mc) (n + ms) Q (F0 m pc ls rest) q) :
    W p l e R s m args below meth c H locs k n Q (F0 m pc ls st0) := by
  intro T hT X
  rcases hr T hT X with ⟨v, st₀, t, T', L, h0, X', hL, e1, e2, ⟨v2, ho, hoc, hb, hP1, hF⟩, st⟩ | ⟨q, st₀, t, T', L, E', ce, h0, X', hL, e1, e2, ⟨ho, hP1, hF⟩, hce, hcv, hcl, st⟩
  · cases hoc
    obtain ⟨k1, k2, k3⟩ := vx_keep h0 e1 hS (fun _ _ h => h) (fun _ h => h) hL hF
    obtain ⟨t2, a1, b1⟩ := kk v2 ho hb T'.heap (locs ++ L) (by rw [e1]; exact hP1) k3 T' rfl X'
    exact ⟨t2, st t2 a1, b1⟩
  · obtain ⟨k1, k2, k3⟩ := vx_keep h0 e1 hS (fun _ _ h => h) (fun _ h => h) hL hF
    obtain ⟨t2, a1, b1⟩ := kx E' ho ce q T'.heap (locs ++ L) (by rw [e1]; exact hP1) k3 (by rw [e1]; exact hce) hcv hcl T' rfl X'
    exact ⟨t2, st.trans a1, b1⟩
end JK
/-- the words of a call of g, with np parameters: of an instance's method -/
def MV (g : MI) (np : Nat) : Prop := cdw g = Cond.code g.1 g.2.1 g.2.2.1 g.2.2.2.1 ∧ Cond.code g.1 g.2.1 g.2.2.1 g.2.2.2.1 ∈ SWL ∧ Cond.initialized g.1.cls ∈ SWL ∧ (g.1.cls ≠ "java/lang/invoke/MethodHandle" ∧ g.1.cls ≠ "java/lang/invoke/VarHandle") ∧ (parseMethodDescriptor g.1.desc).map (fun d => d.parameters.length) = some np ∧ Cond.instanceMethod g.1 ∈ SWL ∧ Cond.selects g.1.cls g.1 g.1 ∈ SWL
/-- of a static method -/
def MS (g : MI) (np : Nat) : Prop := cdw g = Cond.code g.1 g.2.1 g.2.2.1 g.2.2.2.1 ∧ Cond.code g.1 g.2.1 g.2.2.1 g.2.2.2.1 ∈ SWL ∧ Cond.initialized g.1.cls ∈ SWL ∧ (g.1.cls ≠ "java/lang/invoke/MethodHandle" ∧ g.1.cls ≠ "java/lang/invoke/VarHandle") ∧ (parseMethodDescriptor g.1.desc).map (fun d => d.parameters.length) = some np ∧ Cond.static g.1 ∈ SWL
/-- of a static method with handlers -/
def MSH (g : MI) (np : Nat) : Prop := cdw g = Cond.codeWith g.1 g.2.1 g.2.2.1 g.2.2.2.1 g.2.2.2.2.2.2.2.2 ∧ Cond.codeWith g.1 g.2.1 g.2.2.1 g.2.2.2.1 g.2.2.2.2.2.2.2.2 ∈ SWL ∧ Cond.initialized g.1.cls ∈ SWL ∧ (g.1.cls ≠ "java/lang/invoke/MethodHandle" ∧ g.1.cls ≠ "java/lang/invoke/VarHandle") ∧ (parseMethodDescriptor g.1.desc).map (fun d => d.parameters.length) = some np ∧ Cond.static g.1 ∈ SWL
/-- the room of a call of g by f, with k cells and n slots made -/
def RM (f g : MI) (k n : Nat) : Prop := (g.2.2.2.2.1 + 1 ≤ f.2.2.2.2.1 ∧ 8 + (g.2.2.1 + 11) + g.2.2.2.2.2.1 ≤ f.2.2.2.2.2.1) ∧ (k + g.2.2.2.2.2.2.1 ≤ f.2.2.2.2.2.2.1 ∧ n + g.2.2.2.2.2.2.2.1 ≤ f.2.2.2.2.2.2.2.1)
theorem np_of {d : String} {np : Nat} (h : (parseMethodDescriptor d).map (fun d => d.parameters.length) = some np) : ∀ sig, parseMethodDescriptor d = some sig → np = sig.parameters.length := by
  intro sig hs
  rw [hs] at h
  exact (Option.some.inj h).symm
theorem wsf_warm {g : MI} {a : Array Value} {s : State} (h : ∀ w ∈ SWL, w.before a s = true) (hg : cdw g ∈ SWL) : ∀ w ∈ wsf g, ∀ (a' : Array Value) (U : State), s.WarmedH U.vm → w.before a' U = true := by
  intro w hw a' U hW
  rcases List.mem_cons.mp hw with rfl | hw
  · exact SWL_warm h _ hg a' U hW
  · exact SWL_warm h w hw a' U hW
theorem cvs_sum (E : En) (st : List Value) : ((cvs E st).map fun v => v.category).sum = (st.map fun v => v.category).sum := by
  rw [List.map_map]
  congr 1
  apply List.map_congr_left
  intro v _
  exact cv_cat E v
section JC
variable {κ : Kx} {E : En} {f : MI} {Q : State → Prop} {k n : Nat} {L : List (Nat × Value)} {M : Wd} {pc : Nat}
/-- what comes behind a call: the answer, or the exception -/
def Jk (κ : Kx) (E : En) (f g : MI) (Q : State → Prop) (k n : Nat) (L : List (Nat × Value)) (M' : Wd) (pc : Nat) (rest : List Value) (o : Oc) : Prop :=
  Cx κ E f → (∀ v, o = .inl v → okB g.2.2.2.1 v → J κ E f Q (k + g.2.2.2.2.2.2.1) (n + g.2.2.2.2.2.2.2.1) L M' (pc + 3) (v.toList ++ rest)) ∧
  (∀ X, o = .inr X → ∀ (ce : Cell) (q : Addr) (H1 : Heap) (locs1 : List Loc) (ls : Array Slot), va_P E.2.1 vwCl (mk E M') H1 → va_S (Ar E) κ.2.2.2.2.1.heap H1 locs1 → lv_has ls f.2.2.1 (lvm E L) → H1[q]? = some ce → ce.vm = .none → κ.2.2.2.2.1.vm.findClass X = some ce.cls →
    vx_W κ.1 κ.2.1 κ.2.2.1 κ.2.2.2.1 κ.2.2.2.2.1 κ.2.2.2.2.2.1 κ.2.2.2.2.2.2.1 κ.2.2.2.2.2.2.2.1 κ.2.2.2.2.2.2.2.2.1 κ.2.2.2.2.2.2.2.2.2 H1 locs1 (k + g.2.2.2.2.2.2.1) (n + g.2.2.2.2.2.2.2.1) Q (F0 κ.2.2.2.2.2.1 pc ls (cvs E rest)) q)
theorem J_callV {g : MI} {np idx ci b : Nat} {o : Oc} {M' : Wd} {T : u_T} {N : Nat} {fs : List Value} {st0 : List Value} (av rest : List Value) (hg : MV g np) (hlink : Cond.methodLink f.1.cls idx g.1 ∈ SWL) (hcon : Con E g (.ref b :: av) M o M') (hj : jc E M b = .inr (ci, fs)) (hb : b < 53) (hcl : vwCl[ci]? = some (g.1.cls, T, N)) (hn : av.length = np) (hst : st0 = av.reverse ++ .ref b :: rest) (hrm : RM f g k n) (hsum : (rest.map fun v => v.category).sum ≤ 8) (hd : decode f.2.1 pc = .ok (.invokevirtual idx, 3))
    (kk : Jk κ E f g Q k n L M' pc rest o) : J κ E f Q k n L M pc st0 := by
  intro hC H locs ls hP hS hl
  obtain ⟨g1, g2, g3, g4, g5, g6, g7⟩ := hg
  obtain ⟨hx, hbt, hml, hrt, hown, hts, hlk, hR, hSx, hl0, -⟩ := id hC
  obtain ⟨kv, kx⟩ := kk hC
  subst hst
  have hrun := vx_runV (p := κ.1) (l := κ.2.1) (e := κ.2.2.1) (R := κ.2.2.2.1) (s := κ.2.2.2.2.1) (m := κ.2.2.2.2.2.1) (args := κ.2.2.2.2.2.2.1) (below := κ.2.2.2.2.2.2.2.1) (meth := κ.2.2.2.2.2.2.2.2.1) (c := κ.2.2.2.2.2.2.2.2.2) (H := H) (locs := locs) (cells := k) (slots := n)
    (C := g.1.cls) (b := adr E b) (As := cvs E av) (rest := cvs E rest) (g := F0 κ.2.2.2.2.2.1 pc ls (cvs E (av.reverse ++ .ref b :: rest))) (Ts := SWL) (own := f.1.cls) (nL := f.2.2.1) (index := idx) (maxL := g.2.2.1) (bytes := g.2.1) (ret := g.2.2.2.1)
    ⟨hx, hbt, hml, hown, hts⟩ (hcon κ.2.1 hl0) ⟨⟨rfl, rfl, by rw [hR]; exact hrm.1.1, by rw [hR]; exact hrm.1.2, wsf_warm hts (by rw [g1]; exact g2), by rw [← g1]; exact List.mem_cons_self, hts _ g2, hts _ g3, g4, np_of g5, hts _ hlink⟩, hts _ g6, hts _ g7⟩
    ⟨FB_Rl (av := .ref b :: av), va_recv hSx.1 hP hcl (by rw [mk_get hb, hj]), fun U hU hW => ⟨rfl, by rw [hU]; exact hP, hSx.to (fun _ _ h => h) hS hU hW⟩⟩ rfl (by rw [List.length_map]; exact hn) hl.1 (by simp only [cvs, List.map_append, List.map_reverse, List.map_cons]; rfl) (lv_room (by rw [cvs_sum]; exact hsum)) hd ⟨by rw [hR]; exact hrm.2.1, by rw [hR]; exact hrm.2.2⟩
  refine jrun hrun hS (fun v ho hok H1 locs1 hP1 hS1 => ?_) (fun X ho ce q H1 locs1 hP1 hS1 h1 h2 h3 => kx X ho ce q H1 locs1 ls hP1 hS1 hl h1 h2 h3)
  have h9 := kv v ho hok hC H1 locs1 ls hP1 hS1 hl
  cases v <;> exact h9
theorem J_callS {g : MI} {np idx : Nat} {o : Oc} {M' : Wd} {st0 : List Value} (av rest : List Value) (hg : MS g np) (hlink : Cond.methodLink f.1.cls idx g.1 ∈ SWL) (hcon : Con E g av M o M') (hn : av.length = np) (hst : st0 = av.reverse ++ rest) (hrm : RM f g k n) (hsum : (rest.map fun v => v.category).sum ≤ 8) (hd : decode f.2.1 pc = .ok (.invokestatic idx, 3))
    (kk : Jk κ E f g Q k n L M' pc rest o) : J κ E f Q k n L M pc st0 := by
  intro hC H locs ls hP hS hl
  obtain ⟨g1, g2, g3, g4, g5, g6⟩ := hg
  obtain ⟨hx, hbt, hml, hrt, hown, hts, hlk, hR, hSx, hl0, -⟩ := id hC
  obtain ⟨kv, kx⟩ := kk hC
  subst hst
  have hrun := vx_runS (p := κ.1) (l := κ.2.1) (e := κ.2.2.1) (R := κ.2.2.2.1) (s := κ.2.2.2.2.1) (m := κ.2.2.2.2.2.1) (args := κ.2.2.2.2.2.2.1) (below := κ.2.2.2.2.2.2.2.1) (meth := κ.2.2.2.2.2.2.2.2.1) (c := κ.2.2.2.2.2.2.2.2.2) (H := H) (locs := locs) (cells := k) (slots := n)
    (As := cvs E av) (rest := cvs E rest) (g := F0 κ.2.2.2.2.2.1 pc ls (cvs E (av.reverse ++ rest))) (Ts := SWL) (own := f.1.cls) (nL := f.2.2.1) (index := idx) (maxL := g.2.2.1) (bytes := g.2.1) (ret := g.2.2.2.1)
    ⟨hx, hbt, hml, hown, hts⟩ (hcon κ.2.1 hl0) ⟨⟨rfl, rfl, by rw [hR]; exact hrm.1.1, by rw [hR]; exact hrm.1.2, wsf_warm hts (by rw [g1]; exact g2), by rw [← g1]; exact List.mem_cons_self, hts _ g2, hts _ g3, g4, np_of g5, hts _ hlink⟩, hts _ g6⟩
    ⟨FB_Rl (av := av), fun U hU hW => ⟨rfl, by rw [hU]; exact hP, hSx.to (fun _ _ h => h) hS hU hW⟩⟩ rfl (by rw [List.length_map]; exact hn) hl.1 (by simp only [cvs, List.map_append, List.map_reverse]) (lv_room (by rw [cvs_sum]; exact hsum)) hd ⟨by rw [hR]; exact hrm.2.1, by rw [hR]; exact hrm.2.2⟩
  refine jrun hrun hS (fun v ho hok H1 locs1 hP1 hS1 => ?_) (fun X ho ce q H1 locs1 hP1 hS1 h1 h2 h3 => kx X ho ce q H1 locs1 ls hP1 hS1 hl h1 h2 h3)
  have h9 := kv v ho hok hC H1 locs1 ls hP1 hS1 hl
  cases v <;> exact h9
/-- a static method with handlers -/
theorem J_callSX {g : MI} {np idx : Nat} {o : Oc} {M' : Wd} {st0 : List Value} (av rest : List Value) (hg : MSH g np) (hlink : Cond.methodLink f.1.cls idx g.1 ∈ SWL) (hcon : Con E g av M o M') (hn : av.length = np) (hst : st0 = av.reverse ++ rest) (hrm : RM f g k n) (hsum : (rest.map fun v => v.category).sum ≤ 8) (hd : decode f.2.1 pc = .ok (.invokestatic idx, 3))
    (kk : Jk κ E f g Q k n L M' pc rest o) : J κ E f Q k n L M pc st0 := by
  intro hC H locs ls hP hS hl
  obtain ⟨g1, g2, g3, g4, g5, g6⟩ := hg
  obtain ⟨hx, hbt, hml, hrt, hown, hts, hlk, hR, hSx, hl0, -⟩ := id hC
  obtain ⟨kv, kx⟩ := kk hC
  subst hst
  have hrun := vx_runSX (p := κ.1) (l := κ.2.1) (e := κ.2.2.1) (R := κ.2.2.2.1) (s := κ.2.2.2.2.1) (m := κ.2.2.2.2.2.1) (args := κ.2.2.2.2.2.2.1) (below := κ.2.2.2.2.2.2.2.1) (meth := κ.2.2.2.2.2.2.2.2.1) (c := κ.2.2.2.2.2.2.2.2.2) (H := H) (locs := locs) (cells := k) (slots := n)
    (As := cvs E av) (rest := cvs E rest) (g := F0 κ.2.2.2.2.2.1 pc ls (cvs E (av.reverse ++ rest))) (Ts := SWL) (own := f.1.cls) (nL := f.2.2.1) (index := idx) (maxL := g.2.2.1) (bytes := g.2.1) (ret := g.2.2.2.1) (hh := g.2.2.2.2.2.2.2.2)
    ⟨hx, hbt, hml, hown, hts⟩ (hcon κ.2.1 hl0) ⟨⟨rfl, rfl, by rw [hR]; exact hrm.1.1, by rw [hR]; exact hrm.1.2, wsf_warm hts (by rw [g1]; exact g2), by rw [← g1]; exact List.mem_cons_self⟩, hts _ g2, hts _ g3, g4, np_of g5, hts _ hlink, hts _ g6⟩
    ⟨FB_Rl (av := av), fun U hU hW => ⟨rfl, by rw [hU]; exact hP, hSx.to (fun _ _ h => h) hS hU hW⟩⟩ rfl (by rw [List.length_map]; exact hn) hl.1 (by simp only [cvs, List.map_append, List.map_reverse]) (lv_room (by rw [cvs_sum]; exact hsum)) hd ⟨by rw [hR]; exact hrm.2.1, by rw [hR]; exact hrm.2.2⟩
  refine jrun hrun hS (fun v ho hok H1 locs1 hP1 hS1 => ?_) (fun X ho ce q H1 locs1 hP1 hS1 h1 h2 h3 => kx X ho ce q H1 locs1 ls hP1 hS1 hl h1 h2 h3)
  have h9 := kv v ho hok hC H1 locs1 ls hP1 hS1 hl
  cases v <;> exact h9
/-- a nest mate's private static method -/
theorem J_callSN {g : MI} {np idx : Nat} {host : String} {o : Oc} {M' : Wd} {st0 : List Value} (av rest : List Value) (hg : MS g np) (hlink : Cond.methodLinkNest f.1.cls idx g.1 host ∈ SWL) (hcon : Con E g av M o M') (hn : av.length = np) (hst : st0 = av.reverse ++ rest) (hrm : RM f g k n) (hsum : (rest.map fun v => v.category).sum ≤ 8) (hd : decode f.2.1 pc = .ok (.invokestatic idx, 3))
    (kk : Jk κ E f g Q k n L M' pc rest o) : J κ E f Q k n L M pc st0 := by
  intro hC H locs ls hP hS hl
  obtain ⟨g1, g2, g3, g4, g5, g6⟩ := hg
  obtain ⟨hx, hbt, hml, hrt, hown, hts, hlk, hR, hSx, hl0, -⟩ := id hC
  obtain ⟨kv, kx⟩ := kk hC
  subst hst
  have hrun := vx_runSN (p := κ.1) (l := κ.2.1) (e := κ.2.2.1) (R := κ.2.2.2.1) (s := κ.2.2.2.2.1) (m := κ.2.2.2.2.2.1) (args := κ.2.2.2.2.2.2.1) (below := κ.2.2.2.2.2.2.2.1) (meth := κ.2.2.2.2.2.2.2.2.1) (c := κ.2.2.2.2.2.2.2.2.2) (H := H) (locs := locs) (cells := k) (slots := n)
    (As := cvs E av) (rest := cvs E rest) (g := F0 κ.2.2.2.2.2.1 pc ls (cvs E (av.reverse ++ rest))) (Ts := SWL) (own := f.1.cls) (nL := f.2.2.1) (index := idx) (maxL := g.2.2.1) (bytes := g.2.1) (ret := g.2.2.2.1) (host := host)
    ⟨hx, hbt, hml, hown, hts⟩ (hcon κ.2.1 hl0) ⟨⟨⟨rfl, rfl, by rw [hR]; exact hrm.1.1, by rw [hR]; exact hrm.1.2, wsf_warm hts (by rw [g1]; exact g2), by rw [← g1]; exact List.mem_cons_self⟩, hts _ g2, hts _ g3, g4, np_of g5, hts _ hlink⟩, hts _ g6, trivial⟩
    ⟨FB_Rl (av := av), fun U hU hW => ⟨rfl, by rw [hU]; exact hP, hSx.to (fun _ _ h => h) hS hU hW⟩⟩ rfl (by rw [List.length_map]; exact hn) hl.1 (by simp only [cvs, List.map_append, List.map_reverse]) (lv_room (by rw [cvs_sum]; exact hsum)) hd ⟨by rw [hR]; exact hrm.2.1, by rw [hR]; exact hrm.2.2⟩
  refine jrun hrun hS (fun v ho hok H1 locs1 hP1 hS1 => ?_) (fun X ho ce q H1 locs1 hP1 hS1 h1 h2 h3 => kx X ho ce q H1 locs1 ls hP1 hS1 hl h1 h2 h3)
  have h9 := kv v ho hok hC H1 locs1 ls hP1 hS1 hl
  cases v <;> exact h9
/-- it returned -/
theorem Jk_ret {g : MI} {M' : Wd} {rest : List Value} {v : Option Value} (kk : okB g.2.2.2.1 v → J κ E f Q (k + g.2.2.2.2.2.2.1) (n + g.2.2.2.2.2.2.2.1) L M' (pc + 3) (v.toList ++ rest)) : Jk κ E f g Q k n L M' pc rest (.inl v) :=
  fun _ => ⟨fun _ ho hok => by cases ho; exact kk hok, fun _ ho => by cases ho⟩
/-- it threw, and f has no handlers -/
theorem Jk_out {g : MI} {M' M'' : Wd} {rest : List Value} {o : Oc} {X : String} (hh0 : f.2.2.2.2.2.2.2.2 = []) (ho : o = .inr X) (hM : M' = M'') (hrm : RM f g k n) : Jk κ E f g (Qm κ E f o M'') k n L M' pc rest (.inr X) := by
  subst ho; subst hM
  intro hC
  refine ⟨fun _ ho => (by cases ho), fun X' ho ce q H1 locs1 ls hP1 hS1 hl h1 h2 h3 => ?_⟩
  cases ho
  obtain ⟨-, -, -, -, -, -, hlk, -, -, -, -, het⟩ := hC
  refine vx_out (fun x hx => ?_) hlk h1 h2 h3 (fun t ht _ => ⟨rfl, by rw [ht]; exact hP1, hS1.F ht⟩) hS1.2.2 hrm.2.1 hrm.2.2
  rw [het, hh0] at hx
  cases hx
end JC
