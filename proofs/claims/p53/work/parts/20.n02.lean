/-! ===== worlds in the making: fields, arrays, calls ===== -/
section NS
variable {κ : Kx} {E : En} {f : MI} {Q : State → Prop} {k n : Nat} {L L' : List (Nat × Value)} {g : Nat → va_E} {t pc : Nat} {st : List Value}
theorem N_istore_n {q : Fin 4} {i : Nat} {x : Int32} (hd : decode f.2.1 pc = .ok (.istore_n q, 1)) (hi : (q : Nat) = i) (hn : i < f.2.2.1) (ks : List Nat) (hp : lv_pick ((i, .int x) :: L.filter (fl1 i)) ks = L') (kk : JN κ E f Q k n L' g t (pc + 1) st) : JN κ E f Q k n L g t pc (.int x :: st) := fun hC hz H locs ls hP hS hl => lv_istore_n hC.1 hC.2.1 hd hi hl hn rfl (fun ls' h => kk hC hz H locs ls' hP hS (lv_st1 ks rfl hp h))
theorem N_istore {i : Nat} {x : Int32} (hd : decode f.2.1 pc = .ok (.istore i, 2)) (hn : i < f.2.2.1) (ks : List Nat) (hp : lv_pick ((i, .int x) :: L.filter (fl1 i)) ks = L') (kk : JN κ E f Q k n L' g t (pc + 2) st) : JN κ E f Q k n L g t pc (.int x :: st) := fun hC hz H locs ls hP hS hl => lv_istore hC.1 hC.2.1 hd hl hn rfl (fun ls' h => kk hC hz H locs ls' hP hS (lv_st1 ks rfl hp h))
theorem N_astore_n {q : Fin 4} {i : Nat} {x : Nat} (hd : decode f.2.1 pc = .ok (.astore_n q, 1)) (hi : (q : Nat) = i) (hn : i < f.2.2.1) (ks : List Nat) (hp : lv_pick ((i, .ref x) :: L.filter (fl1 i)) ks = L') (kk : JN κ E f Q k n L' g t (pc + 1) st) : JN κ E f Q k n L g t pc (.ref x :: st) := fun hC hz H locs ls hP hS hl => lv_astore_n hC.1 hC.2.1 hd hi hl hn rfl (fun ls' h => kk hC hz H locs ls' hP hS (lv_st1 ks rfl hp h))
theorem N_iinc {i : Nat} {q : Int} {x v : Int32} (hd : decode f.2.1 pc = .ok (.iinc i q, 3)) (j : Nat) (hj : L[j]? = some (i, .int x)) (hv : x + Int32.ofInt q = v) (hn : i < f.2.2.1) (ks : List Nat) (hp : lv_pick ((i, .int v) :: L.filter (fl1 i)) ks = L') (kk : JN κ E f Q k n L' g t (pc + 3) st) : JN κ E f Q k n L g t pc st := fun hC hz H locs ls hP hS hl => lv_iinc hC.1 hC.2.1 hd hl (k := j) (by rw [List.getElem?_map, hj]; rfl) hv hn rfl (fun ls' h => kk hC hz H locs ls' hP hS (lv_st1 ks rfl hp h))
theorem N_get {c ci i : Nat} {C ref : String} {T : u_T} {N : Nat} {fs : List Value} {v : Value} (hj : g c = .inr (ci, fs)) (hc : c < t) (hcl : vwCl[ci]? = some (C, T, N)) (hlay : ∀ w ∈ u_ws C T N, w ∈ SWL) (j : Nat) (hk : j < N) (hlink : Cond.fieldLink f.1.cls i ref (T j).2.1 (T j).2.2.1 ∈ SWL) (hsame : (T j).1 = ref) (hv : fs[j]? = some (cv E v)) (hd : decode f.2.1 pc = .ok (.getfield i, 3))
    (kk : JN κ E f Q k n L g t (pc + 3) (v :: st)) : JN κ E f Q k n L g t pc (.ref c :: st) := by
  intro hC hz H locs ls hP hS hl
  exact va_get hC.1 hC.2.1 hC.2.2.2.2.2.1 hlay hC.2.2.2.2.1 hC.2.2.2.2.2.2.2.2.1.1 hP c (by rw [mkP_get hc, hj]) hcl j hk (hC.2.2.2.2.2.1 _ hlink) (fun x h => by rw [← hsame]; exact h) hv hd (kk hC hz H locs ls hP hS hl)
/-- putfield: of a final field in its constructor -/
theorem N_putF {c ci i : Nat} {C ref : String} {T : u_T} {N : Nat} {fs : List Value} {v : Value} (hj : g c = .inr (ci, fs)) (hc : c < t) (ht : t ≤ 53) (hcl : vwCl[ci]? = some (C, T, N)) (hlay : ∀ w ∈ u_ws C T N, w ∈ SWL) (ty0 : Nat → FieldType) (hty : ∀ k, k < N → parseFieldDescriptor (T k).2.2.1 = some (ty0 k)) (hnm : ∀ a, a < N → ∀ b, b < N → a ≠ b → (T a).2.1 ≠ (T b).2.1) (j : Nat) (hk : j < N) (hlink : Cond.fieldLink f.1.cls i ref (T j).2.1 (T j).2.2.1 ∈ SWL) (hsame : (T j).1 = ref) (hfin : (T j).2.2.2 = true) (hini : f.1.name = "<init>") (hdecl : (T j).1 = f.1.cls) (hn : narrow (ty0 j) (cv E v) = cv E v) (hfit : fits (ty0 j) (cv E v) = true) (hlen : j < fs.length) (hd : decode f.2.1 pc = .ok (.putfield i, 3))
    (kk : JN κ E f Q k n L (gs g c (.inr (ci, fs.set j (cv E v)))) t (pc + 3) st) : JN κ E f Q k n L g t pc (v :: .ref c :: st) := by
  intro hC hz H locs ls hP hS hl
  refine va_putF hC.1 hC.2.1 hC.2.2.2.2.2.1 hlay ty0 hty hnm hC.2.2.2.2.1 hC.2.2.2.2.2.2.2.2.1.1 hP (mkP_D ht) hS c (by rw [mkP_get hc, hj]) hcl j hk (hC.2.2.2.2.2.1 _ hlink) (fun x h => by rw [← hsame]; exact h) hfin (hC.2.2.2.2.2.2.2.2.2.2.symm.trans hini) hdecl (hty j hk) hn hfit hlen hd (fun H1 locs1 hP1 _ hS1 => ?_)
  rw [mkP_set hc] at hP1
  exact kk hC hz H1 locs1 ls hP1 hS1 hl
theorem N_put {c ci i : Nat} {C ref : String} {T : u_T} {N : Nat} {fs : List Value} {v : Value} (hj : g c = .inr (ci, fs)) (hc : c < t) (ht : t ≤ 53) (hcl : vwCl[ci]? = some (C, T, N)) (hlay : ∀ w ∈ u_ws C T N, w ∈ SWL) (ty0 : Nat → FieldType) (hty : ∀ k, k < N → parseFieldDescriptor (T k).2.2.1 = some (ty0 k)) (hnm : ∀ a, a < N → ∀ b, b < N → a ≠ b → (T a).2.1 ≠ (T b).2.1) (j : Nat) (hk : j < N) (hlink : Cond.fieldLink f.1.cls i ref (T j).2.1 (T j).2.2.1 ∈ SWL) (hsame : (T j).1 = ref) (hfin : (T j).2.2.2 = false) (hn : narrow (ty0 j) (cv E v) = cv E v) (hfit : fits (ty0 j) (cv E v) = true) (hlen : j < fs.length) (hd : decode f.2.1 pc = .ok (.putfield i, 3))
    (kk : JN κ E f Q k n L (gs g c (.inr (ci, fs.set j (cv E v)))) t (pc + 3) st) : JN κ E f Q k n L g t pc (v :: .ref c :: st) := by
  intro hC hz H locs ls hP hS hl
  refine va_put hC.1 hC.2.1 hC.2.2.2.2.2.1 hlay ty0 hty hnm hC.2.2.2.2.1 hC.2.2.2.2.2.2.2.2.1.1 hP (mkP_D ht) hS c (by rw [mkP_get hc, hj]) hcl j hk (hC.2.2.2.2.2.1 _ hlink) (fun x h => by rw [← hsame]; exact h) hfin (hty j hk) hn hfit hlen hd (fun H1 locs1 hP1 _ hS1 => ?_)
  rw [mkP_set hc] at hP1
  exact kk hC hz H1 locs1 ls hP1 hS1 hl
theorem N_iast {c N : Nat} {i x : Int32} {r : Nat → Int32} (hj : g c = .inl (E.2.2.1 0, N, .inl r)) (hc : c < t) (ht : t ≤ 53) (hin : vp_in i N) (hd : decode f.2.1 pc = .ok (.iastore, 1))
    (kk : JN κ E f Q k n L (gs g c (.inl (E.2.2.1 0, N, .inl (upd r i.toNatClampNeg x)))) t (pc + 1) st) : JN κ E f Q k n L g t pc (.int x :: .int i :: .ref c :: st) := by
  intro hC hz H locs ls hP hS hl
  refine va_iast hC.1 hC.2.1 hC.2.2.2.2.2.2.2.2.1.1 hP (mkP_D ht) hS c 0 (by rw [mkP_get hc, hj]) rfl hin hd (fun H1 locs1 hP1 _ hS1 => ?_)
  rw [mkP_set hc] at hP1
  exact kk hC hz H1 locs1 ls hP1 hS1 hl
theorem N_aast {c b N : Nat} {i : Int32} {vs : List Value} {r : Nat → Option Nat} (hj : g c = .inl (E.2.2.1 1, N, .inr (.inr (.inr (.inr r))))) (hb : g b = .inr (1, vs)) (hc : c < t) (hbt : b < t) (ht : t ≤ 53) (hin : vp_in i N) (hd : decode f.2.1 pc = .ok (.aastore, 1))
    (kk : JN κ E f Q k n L (gs g c (.inl (E.2.2.1 1, N, .inr (.inr (.inr (.inr (va_up r i.toNatClampNeg (some (adr E b))))))))) t (pc + 1) st) : JN κ E f Q k n L g t pc (.ref b :: .int i :: .ref c :: st) := by
  intro hC hz H locs ls hP hS hl
  refine va_astq hC.1 hC.2.1 hC.2.2.2.2.2.2.2.2.1.1 hP (mkP_D ht) hS c 1 b 1 (r := (RX1, TX1, 10)) (by rw [mkP_get hc, hj]) rfl (by rw [mkP_get hbt, hb]) rfl hin hd (fun H1 locs1 hP1 _ hS1 => ?_)
  rw [mkP_set hc] at hP1
  exact kk hC hz H1 locs1 ls hP1 hS1 hl
/-- a new array of parks -/
theorem N_newq {i N : Nat} {v : Int32} (hclink : Cond.classLink f.1.cls i "CarTangos$Park" ∈ SWL) (hn0 : ¬ v < 0) (hN : v.toNatClampNeg = N) (hbytes : N * 4 ≤ 536870912) (hk : k + 1 ≤ f.2.2.2.2.2.2.1) (hn : n + N ≤ f.2.2.2.2.2.2.2.1) (ht : t < 53) (hd : decode f.2.1 pc = .ok (.anewarray i, 3))
    (kk : JN κ E f Q (k + 1) (n + N) L (gs g t (.inl (E.2.2.1 1, N, .inr (.inr (.inr (.inr (fun _ => none))))))) (t + 1) (pc + 3) (.ref t :: st)) : JN κ E f Q k n L g t pc (.int v :: st) := by
  intro hC hz H locs ls hP hS hl
  obtain ⟨hx, hb, hml, hrt, hown, hts, hlk, hR, hSx, hE, hnm⟩ := id hC
  refine va_newq hx hb hown (hts _ hclink) hE.2 hSx.1 hP (mkP_D (by omega)) hS (Ar_z hE.1) hn0 hN hbytes (by rw [hR]; exact hk) (by rw [hR]; exact hn) hd (fun q cA H1 hK1 hP1 hD1 hS1 => ?_)
  refine kW_sz (κ := κ) (fun hsz => ?_)
  have hq := q_eq ht hP1 hD1 hsz hz
  subst hq
  obtain ⟨kA1, c1, -, -, -, h1⟩ := (hK1.2 2 (cA, .object "CarTangos$Park") rfl).2
  obtain ⟨kA2, c2, -, -, -, h2⟩ := (hSx.1.2 1 (E.2.2.1 1, .object "CarTangos$Park") rfl).2
  have hcA : cA = E.2.2.1 1 := Option.some.inj (h1.symm.trans h2)
  subst hcA
  rw [mkP_push] at hP1
  exact kk hC (by omega) H1 locs ls hP1 hS1 hl
theorem N_objInit {i b : Nat} (hlink : Cond.methodLink f.1.cls i Lib.objectInit ∈ SWL) (hinst : Cond.instanceMethod Lib.objectInit ∈ SWL) (hcode : Cond.code Lib.objectInit ⟨#[0xb1]⟩ 1 none ∈ SWL) (hf : 1 ≤ f.2.2.2.2.1) (hl2 : 12 ≤ f.2.2.2.2.2.1) (hd : decode f.2.1 pc = .ok (.invokespecial i, 3)) (kk : JN κ E f Q k n L g t (pc + 3) []) : JN κ E f Q k n L g t pc [.ref b] := by
  intro hC hz H locs ls hP hS hl
  obtain ⟨hx, hb, hml, hrt, hown, hts, hlk, hR, hSx, hE, hnm⟩ := id hC
  refine W.objInit hx hb hown (hts _ hlink) (hts _ hinst) (hts _ hcode) rfl (by rw [hml]; exact hl.1) rfl hd (by rw [hR]; exact hf) (by rw [hR]; exact hl2) ?_
  exact W.eq (g2 := F0 κ.2.2.2.2.2.1 (pc + 3) ls []) rfl (kk hC hz H locs ls hP hS hl)
end NS
/-! contracts of constructors -/
def PI (E : En) (g : Nat → va_E) (t : Nat) (U : State) : Prop := va_P E.2.1 vwCl (mkP E g t) U.heap ∧ Sx E U ∧ (U.heap.size = E.1 + t ∧ E.2.2.2.1 = 0) ∧ va_AO "CarTangos$Park" U
abbrev QI (E : En) (g : Nat → va_E) (t : Nat) : Array Value → State → Outcome → State → Prop := va_Qv (fun _ : Unit => True) (fun _ U => va_P E.2.1 vwCl (mkP E g t) U.heap) (Ar E)
def ConI (E : En) (f : MI) (b : Nat) (g g' : Nat → va_E) (t t' : Nat) : Prop :=
  ∀ l : Launch, Met l f.1 (wsf f) (rmf f) (va_Pc [.ref (adr E b)] (PI E g t)) (QI E g' t') f.2.2.2.2.2.2.1 f.2.2.2.2.2.2.2.1 (Ar E)
abbrev QN (κ : Kx) (E : En) (f : MI) (g : Nat → va_E) (t : Nat) : State → Prop := MQ κ.2.2.2.2.2.2.2.1 (QI E g t) κ.2.2.2.2.2.2.1 κ.2.2.2.2.1 f.2.2.2.2.2.2.1 f.2.2.2.2.2.2.2.1 (Ar E)
theorem ConI.of {E : En} {f : MI} {b t t' : Nat} {g g' : Nat → va_E} (hy : plainName f.1.cls = true) (hh0 : cdw f = Cond.code f.1 f.2.1 f.2.2.1 f.2.2.2.1) (hlen : 1 ≤ f.2.2.1)
    (body : ∀ κ : Kx, JN κ E f (QN κ E f g' t') 0 0 [(0, .ref b)] g t 0 []) : ConI E f b g g' t t' := by
  intro l
  have hcd : wsf f = Cond.code f.1 f.2.1 f.2.2.1 f.2.2.2.1 :: SWL := by simp only [wsf, hh0]
  refine Met.ofW (cc := f.2.1) (maxL := f.2.2.1) (ret := f.2.2.2.1) hy hcd ?_
  intro p e s m args below meth c s₁ B hml hv
  obtain ⟨rfl, hP, hX, hz, hAO⟩ := hv
  have hts : ∀ w ∈ SWL, w.before (cvs E [.ref b]).toArray s = true := fun w h => atoms_spec (ws := wsf f) B.pre w (List.mem_cons_of_mem _ h)
  have hown : s.vm.findClass f.1.cls = some m.cls := findClass_of_methodNamed B.named
  have hnm : f.1.name = meth.name := (name_of_methodNamed B.named B.method).1.symm
  have hl0 := lv_entry (cvs E [.ref b]) (n := f.2.2.1) hlen
  rw [lvm_args] at hl0
  rw [lg_entry_eq]
  exact body (p, l, e, (headSpec (wsf f) (rmf f)).room, s, m, (cvs E [.ref b]).toArray, below, meth, c) ⟨B.exec, B.bytes, hml, B.returns, hown, hts, B.notSynchronized, rfl, hX, ⟨⟨by rw [hz.1]; exact Nat.le_add_right _ _, hz.2⟩, hAO⟩, hnm⟩ (by rw [Nat.add_zero]; exact hz.1) s.heap [] _ hP va_S.rf hl0
theorem FB_PI {E : En} {b t : Nat} {g : Nat → va_E} : FrameBlind (va_Pc [.ref (adr E b)] (PI E g t)) := fun a _ fr mk' q => ⟨q.1, q.2.1, q.2.2.1.calling fr mk' a, q.2.2.2.1, va_AO.moved (Vm.Alike.refl _) q.2.2.2.2⟩
/-- the words of a constructor without parameters -/
def MN (g : MI) : Prop := cdw g = Cond.code g.1 g.2.1 g.2.2.1 none ∧ Cond.code g.1 g.2.1 g.2.2.1 none ∈ SWL ∧ Cond.initialized g.1.cls ∈ SWL ∧ (g.1.cls ≠ "java/lang/invoke/MethodHandle" ∧ g.1.cls ≠ "java/lang/invoke/VarHandle") ∧ (parseMethodDescriptor g.1.desc).map (fun d => d.parameters.length) = some 0 ∧ Cond.instanceMethod g.1 ∈ SWL ∧ g.1.name = "<init>"
section NC
variable {κ : Kx} {E : En} {f : MI} {Q : State → Prop} {k n : Nat} {L : List (Nat × Value)} {g g' : Nat → va_E} {t t' pc : Nat}
theorem N_size {H : Heap} (hP : va_P E.2.1 vwCl (mkP E g t) H) (ht : 0 < t) (ht2 : t ≤ 53) (hsz : H.size ≤ κ.2.2.2.2.1.heap.size + k) (hz : κ.2.2.2.2.1.heap.size + k = E.1 + t) : H.size = E.1 + t := by
  have h1 : adr E (t - 1) < H.size := (hP (t - 1) _ (mkP_get (by omega))).lt
  rw [adr_lt (by omega)] at h1
  omega
theorem N_initN {gi : MI} {idx b : Nat} {host : String} {rest : List Value} (hg : MN gi) (hlink : Cond.methodLinkNest f.1.cls idx gi.1 host ∈ SWL) (hcon : ConI E gi b g g' t t') (ht : 0 < t) (ht2 : t ≤ 53) (ht' : t' = t + gi.2.2.2.2.2.2.1) (hrm : RM f gi k n) (hsum : (rest.map fun v => v.category).sum ≤ 8) (hd : decode f.2.1 pc = .ok (.invokespecial idx, 3))
    (kk : JN κ E f Q (k + gi.2.2.2.2.2.2.1) (n + gi.2.2.2.2.2.2.2.1) L g' t' (pc + 3) rest) : JN κ E f Q k n L g t pc (.ref b :: rest) := by
  intro hC hz H locs ls hP hS hl
  obtain ⟨g1, g2, g3, g4, g5, g6, g7⟩ := hg
  obtain ⟨hx, hbt, hml, hrt, hown, hts, hlk, hR, hSx, hE, hnm⟩ := id hC
  refine kW_sz (κ := κ) (fun hsz => ?_)
  have hz2 := N_size (κ := κ) hP ht ht2 hsz hz
  have hrun := va_runIN (p := κ.1) (l := κ.2.1) (e := κ.2.2.1) (R := κ.2.2.2.1) (s := κ.2.2.2.2.1) (m := κ.2.2.2.2.2.1) (args := κ.2.2.2.2.2.2.1) (below := κ.2.2.2.2.2.2.2.1) (meth := κ.2.2.2.2.2.2.2.2.1) (c := κ.2.2.2.2.2.2.2.2.2) (H := H) (locs := locs) (cells := k) (slots := n)
    (As := []) (rest := cvs E rest) (b := adr E b) (g := F0 κ.2.2.2.2.2.1 pc ls (cvs E (.ref b :: rest))) (Ts := SWL) (own := f.1.cls) (nL := f.2.2.1) (index := idx) (maxL := gi.2.2.1) (bytes := gi.2.1) (host := host)
    ⟨hx, hbt, hml, hown, hts⟩ (hcon κ.2.1) ⟨⟨⟨rfl, rfl, by rw [hR]; exact hrm.1.1, by rw [hR]; exact hrm.1.2, wsf_warm hts (by rw [g1]; exact g2), by rw [← g1]; exact List.mem_cons_self⟩, hts _ g2, hts _ g3, g4, np_of g5, hts _ hlink⟩, g7, hts _ g6⟩
    ⟨FB_PI, fun U hU hW => ⟨rfl, by rw [hU]; exact hP, hSx.to (fun _ _ h => h) hS hU hW, ⟨by rw [hU]; exact hz2, hE.1.2⟩, va_AO.moved hW.alike hE.2⟩⟩ rfl rfl hl.1 rfl (lv_room (by rw [cvs_sum]; exact hsum)) hd ⟨by rw [hR]; exact hrm.2.1, by rw [hR]; exact hrm.2.2⟩
  exact va_callv hrun hS (fun _ _ h => h) (fun _ h => h) (fun u U H1 locs1 hU _ _ hB _ _ hS1 => kk hC (by omega) H1 locs1 ls (by rw [← hU]; exact hB) hS1 hl)
theorem N_initL {gi : MI} {idx b : Nat} {rest : List Value} (hg : MN gi) (hlink : Cond.methodLink f.1.cls idx gi.1 ∈ SWL) (hcon : ConI E gi b g g' t t') (ht : 0 < t) (ht2 : t ≤ 53) (ht' : t' = t + gi.2.2.2.2.2.2.1) (hrm : RM f gi k n) (hsum : (rest.map fun v => v.category).sum ≤ 8) (hd : decode f.2.1 pc = .ok (.invokespecial idx, 3))
    (kk : JN κ E f Q (k + gi.2.2.2.2.2.2.1) (n + gi.2.2.2.2.2.2.2.1) L g' t' (pc + 3) rest) : JN κ E f Q k n L g t pc (.ref b :: rest) := by
  intro hC hz H locs ls hP hS hl
  obtain ⟨g1, g2, g3, g4, g5, g6, g7⟩ := hg
  obtain ⟨hx, hbt, hml, hrt, hown, hts, hlk, hR, hSx, hE, hnm⟩ := id hC
  refine kW_sz (κ := κ) (fun hsz => ?_)
  have hz2 := N_size (κ := κ) hP ht ht2 hsz hz
  have hrun := va_runI (p := κ.1) (l := κ.2.1) (e := κ.2.2.1) (R := κ.2.2.2.1) (s := κ.2.2.2.2.1) (m := κ.2.2.2.2.2.1) (args := κ.2.2.2.2.2.2.1) (below := κ.2.2.2.2.2.2.2.1) (meth := κ.2.2.2.2.2.2.2.2.1) (c := κ.2.2.2.2.2.2.2.2.2) (H := H) (locs := locs) (cells := k) (slots := n)
    (As := []) (rest := cvs E rest) (b := adr E b) (g := F0 κ.2.2.2.2.2.1 pc ls (cvs E (.ref b :: rest))) (Ts := SWL) (own := f.1.cls) (nL := f.2.2.1) (index := idx) (maxL := gi.2.2.1) (bytes := gi.2.1)
    ⟨hx, hbt, hml, hown, hts⟩ (hcon κ.2.1) ⟨⟨rfl, rfl, by rw [hR]; exact hrm.1.1, by rw [hR]; exact hrm.1.2, wsf_warm hts (by rw [g1]; exact g2), by rw [← g1]; exact List.mem_cons_self, hts _ g2, hts _ g3, g4, np_of g5, hts _ hlink⟩, g7, hts _ g6⟩
    ⟨FB_PI, fun U hU hW => ⟨rfl, by rw [hU]; exact hP, hSx.to (fun _ _ h => h) hS hU hW, ⟨by rw [hU]; exact hz2, hE.1.2⟩, va_AO.moved hW.alike hE.2⟩⟩ rfl rfl hl.1 rfl (lv_room (by rw [cvs_sum]; exact hsum)) hd ⟨by rw [hR]; exact hrm.2.1, by rw [hR]; exact hrm.2.2⟩
  exact va_callv hrun hS (fun _ _ h => h) (fun _ h => h) (fun u U H1 locs1 hU _ _ hB _ _ hS1 => kk hC (by omega) H1 locs1 ls (by rw [← hU]; exact hB) hS1 hl)
theorem N_return (hd : decode f.2.1 pc = .ok (.return_, 1)) (hr : f.2.2.2.1 = none) (hg : ∀ i, i < t → g i = g' i) (ht : t = t') (hk : k = f.2.2.2.2.2.2.1) (hn : n = f.2.2.2.2.2.2.2.1) : JN κ E f (QN κ E f g' t') k n L g t pc [] := by
  intro hC hz H locs ls hP hS hl
  obtain ⟨hx, hbt, hml, hrt, hown, hts, hlk, hR, hSx, hE, hnm⟩ := id hC
  subst hk; subst hn; subst ht
  rw [mkP_cong hg] at hP
  exact W.vret hx hbt (by rw [hrt, hr]) (fun U hU _ => ⟨⟨(), rfl, trivial, show va_P E.2.1 vwCl (mkP E g' t) U.heap by rw [hU]; exact hP⟩, hS.F hU⟩) hS.2.2 hd (hlocks := hlk)
end NC
