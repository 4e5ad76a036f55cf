/-! ===== worlds in the making: the first t cells ===== -/
def mkP (E : En) (g : Nat → va_E) (t : Nat) : va_W := (List.range t).map (fun i => (adr E i, g i))
theorem mkP_get {E : En} {g : Nat → va_E} {t i : Nat} (hi : i < t) : (mkP E g t)[i]? = some (adr E i, g i) := by
  simp [mkP, List.getElem?_range hi]
theorem mkP_len {E : En} {g : Nat → va_E} {t : Nat} : (mkP E g t).length = t := by simp [mkP]
theorem mkP_at {E : En} {g : Nat → va_E} {t i : Nat} {q : Nat × va_E} (h : (mkP E g t)[i]? = some q) : i < t ∧ q = (adr E i, g i) := by
  have hi : i < t := by
    have := (List.getElem?_eq_some_iff.mp h).1
    rwa [mkP_len] at this
  exact ⟨hi, Option.some.inj (h.symm.trans (mkP_get hi))⟩
def gs (g : Nat → va_E) (c : Nat) (e : va_E) : Nat → va_E := fun i => if i = c then e else g i
theorem gs_s {g : Nat → va_E} {c : Nat} {e : va_E} : gs g c e c = e := if_pos rfl
theorem gs_n {g : Nat → va_E} {c i : Nat} {e : va_E} (h : i ≠ c) : gs g c e i = g i := if_neg h
theorem mkP_cong {E : En} {g g' : Nat → va_E} {t : Nat} (h : ∀ i, i < t → g i = g' i) : mkP E g t = mkP E g' t :=
  List.map_congr_left fun i hi => by rw [h i (List.mem_range.mp hi)]
theorem mkP_set {E : En} {g : Nat → va_E} {t c : Nat} {e : va_E} (hc : c < t) : (mkP E g t).set c (adr E c, e) = mkP E (gs g c e) t := by
  apply List.ext_getElem?
  intro i
  by_cases hi : i < t
  · by_cases hic : i = c
    · subst hic
      rw [List.getElem?_set_self (by rw [mkP_len]; exact hi), mkP_get hi, gs_s]
    · rw [List.getElem?_set_ne (fun q => hic q.symm), mkP_get hi, mkP_get hi, gs_n hic]
  · rw [List.getElem?_eq_none (by rw [List.length_set, mkP_len]; omega), List.getElem?_eq_none (by rw [mkP_len]; omega)]
theorem mkP_push {E : En} {g : Nat → va_E} {t : Nat} {e : va_E} : mkP E g t ++ [(adr E t, e)] = mkP E (gs g t e) (t + 1) := by
  unfold mkP
  rw [List.range_succ, List.map_append]
  congr 1
  · exact List.map_congr_left fun i hi => by rw [gs_n (by have := List.mem_range.mp hi; omega)]
  · show [(adr E t, e)] = [(adr E t, gs g t e t)]
    rw [gs_s]
theorem mkP_D {E : En} {g : Nat → va_E} {t : Nat} (ht : t ≤ 53) : va_D (Ar E) (mkP E g t) := by
  refine ⟨fun i j p q hi hj h => ?_, fun k q hk => ?_⟩
  · obtain ⟨h1, rfl⟩ := mkP_at hi
    obtain ⟨h2, rfl⟩ := mkP_at hj
    have h3 : adr E i = adr E j := h
    rw [adr_lt (by omega), adr_lt (by omega)] at h3
    omega
  · obtain ⟨h1, rfl⟩ := mkP_at hk
    show E.1 ≤ adr E k ∧ (adr E k < E.1 + 53 ∨ E.2.2.2.1 ≤ adr E k)
    rw [adr_lt (by omega)]
    exact ⟨by omega, Or.inl (by omega)⟩
theorem Ar_z {E : En} {S : Nat} (hE : E.1 ≤ S ∧ E.2.2.2.1 = 0) : ∀ q, S ≤ q → Ar E q := fun q h => ⟨Nat.le_trans hE.1 h, Or.inr (by rw [hE.2]; exact Nat.zero_le _)⟩
theorem mkP_mk {E : En} {M : Wd} : mk E M = mkP E (jc E M) 53 := rfl
def CxN (κ : Kx) (E : En) (f : MI) : Prop :=
  κ.1.tables.exec = Jvm.exec ∧ κ.2.2.2.2.2.2.2.2.2.code = f.2.1 ∧ κ.2.2.2.2.2.2.2.2.2.maxLocals = f.2.2.1 ∧ κ.2.2.2.2.2.2.2.2.1.sig.returnType = f.2.2.2.1 ∧ κ.2.2.2.2.1.vm.findClass f.1.cls = some κ.2.2.2.2.2.1.cls ∧
  (∀ w ∈ SWL, w.before κ.2.2.2.2.2.2.1 κ.2.2.2.2.1 = true) ∧ κ.2.2.2.2.2.2.2.2.1.locks = false ∧ κ.2.2.2.1 = rmf f ∧ Sx E κ.2.2.2.2.1 ∧ ((E.1 ≤ κ.2.2.2.2.1.heap.size ∧ E.2.2.2.1 = 0) ∧ va_AO "CarTangos$Park" κ.2.2.2.2.1) ∧ f.1.name = κ.2.2.2.2.2.2.2.2.1.name
/-- as J, the world being the first t cells; what was made is counted -/
def JN (κ : Kx) (E : En) (f : MI) (Q : State → Prop) (k n : Nat) (L : List (Nat × Value)) (g : Nat → va_E) (t : Nat) (pc : Nat) (st : List Value) : Prop :=
  CxN κ E f → κ.2.2.2.2.1.heap.size + k = E.1 + t → ∀ (H : Heap) (locs : List Loc) (ls : Array Slot), va_P E.2.1 vwCl (mkP E g t) H → va_S (Ar E) κ.2.2.2.2.1.heap H locs → lv_has ls f.2.2.1 (lvm E L) →
    kW κ H locs k n Q (F0 κ.2.2.2.2.2.1 pc ls (cvs E st))
theorem kW_sz {κ : Kx} {H : Heap} {locs : List Loc} {k n : Nat} {Q : State → Prop} {g : JFrame} (kk : H.size ≤ κ.2.2.2.2.1.heap.size + k → kW κ H locs k n Q g) : kW κ H locs k n Q g := fun T hT X => by
  have h : T.heap.size ≤ κ.2.2.2.2.1.heap.size + k := X.same.2.2.1
  rw [hT] at h
  exact kk h T hT X
theorem q_eq {E : En} {g : Nat → va_E} {t q k S0 : Nat} {e : va_E} {H1 : Heap} (ht : t < 53) (hP : va_P E.2.1 vwCl (mkP E g t ++ [(q, e)]) H1) (hD : va_D (Ar E) (mkP E g t ++ [(q, e)])) (hsz : H1.size ≤ S0 + (k + 1)) (hz : S0 + k = E.1 + t) : q = adr E t := by
  have e1 : (mkP E g t ++ [(q, e)])[t]? = some (q, e) := by
    rw [List.getElem?_append_right (by rw [mkP_len]; exact Nat.le_refl _), mkP_len, Nat.sub_self]; rfl
  have h1 : q < H1.size := (hP t _ e1).lt
  have h2 : E.1 ≤ q := (hD.2 t _ e1).1
  rw [adr_lt ht]
  refine Classical.byContradiction fun hne => ?_
  have hi : q - E.1 < t := by omega
  have e2 : (mkP E g t ++ [(q, e)])[q - E.1]? = some (adr E (q - E.1), g (q - E.1)) := by
    rw [List.getElem?_append_left (by rw [mkP_len]; exact hi), mkP_get hi]
  have := hD.1 _ _ _ _ e2 e1 (show adr E (q - E.1) = q by rw [adr_lt (by omega)]; omega)
  omega
section NR
variable {κ : Kx} {E : En} {f : MI} {Q : State → Prop} {k n : Nat} {L L' : List (Nat × Value)} {g : Nat → va_E} {t pc : Nat} {st : List Value}
theorem N_aload_n {q : Fin 4} {i : Nat} {x : Nat} (hd : decode f.2.1 pc = .ok (.aload_n q, 1)) (hi : (q : Nat) = i) (j : Nat) (hj : L[j]? = some (i, .ref x)) (kk : JN κ E f Q k n L g t (pc + 1) (.ref x :: st)) : JN κ E f Q k n L g t pc st := fun hC hz H locs ls hP hS hl => lv_aload_n hC.1 hC.2.1 hd hi (lv_lk hl j hj) (kk hC hz H locs ls hP hS hl)
theorem N_iload_n {q : Fin 4} {i : Nat} {x : Int32} (hd : decode f.2.1 pc = .ok (.iload_n q, 1)) (hi : (q : Nat) = i) (j : Nat) (hj : L[j]? = some (i, .int x)) (kk : JN κ E f Q k n L g t (pc + 1) (.int x :: st)) : JN κ E f Q k n L g t pc st := fun hC hz H locs ls hP hS hl => lv_iload_n hC.1 hC.2.1 hd hi (lv_lk hl j hj) (kk hC hz H locs ls hP hS hl)
theorem N_iconst {q : Int} {v : Int32} (hd : decode f.2.1 pc = .ok (.iconst q, 1)) (hv : Int32.ofInt q = v) (kk : JN κ E f Q k n L g t (pc + 1) (.int v :: st)) : JN κ E f Q k n L g t pc st := fun hC hz H locs ls hP hS hl => lv_iconst hC.1 hC.2.1 hd hv (kk hC hz H locs ls hP hS hl)
theorem N_bipush {q : Int} {v : Int32} (hd : decode f.2.1 pc = .ok (.bipush q, 2)) (hv : (Int8.ofInt q).toInt32 = v) (kk : JN κ E f Q k n L g t (pc + 2) (.int v :: st)) : JN κ E f Q k n L g t pc st := fun hC hz H locs ls hP hS hl => lv_bipush hC.1 hC.2.1 hd hv (kk hC hz H locs ls hP hS hl)
theorem N_sipush {q : Int} {v : Int32} (hd : decode f.2.1 pc = .ok (.sipush q, 3)) (hv : (Int16.ofInt q).toInt32 = v) (kk : JN κ E f Q k n L g t (pc + 3) (.int v :: st)) : JN κ E f Q k n L g t pc st := fun hC hz H locs ls hP hS hl => lv_sipush hC.1 hC.2.1 hd hv (kk hC hz H locs ls hP hS hl)
theorem N_dup {v : Value} (hd : decode f.2.1 pc = .ok (.dup, 1)) (hv : v.category = 1) (kk : JN κ E f Q k n L g t (pc + 1) (v :: v :: st)) : JN κ E f Q k n L g t pc (v :: st) := fun hC hz H locs ls hP hS hl => lv_dup hC.1 hC.2.1 hd (by rw [cv_cat]; exact hv) (kk hC hz H locs ls hP hS hl)
theorem N_goto {off : Int} {tgt : Nat} (hd : decode f.2.1 pc = .ok (.goto off, 3)) (ht : (pc : Int) + off = (tgt : Int)) (kk : JN κ E f Q k n L g t tgt st) : JN κ E f Q k n L g t pc st := fun hC hz H locs ls hP hS hl => lv_goto hC.1 hC.2.1 hd ht (kk hC hz H locs ls hP hS hl)
theorem N_icmp_ge {x y : Int32} {off : Int} {tgt : Nat} (hd : decode f.2.1 pc = .ok (.if_icmp .ge off, 3)) (ht : (pc : Int) + off = (tgt : Int)) (kt : y ≤ x → JN κ E f Q k n L g t tgt st) (kf : ¬ y ≤ x → JN κ E f Q k n L g t (pc + 3) st) : JN κ E f Q k n L g t pc (.int y :: .int x :: st) := fun hC hz H locs ls hP hS hl => lv_icmp_ge hC.1 hC.2.1 hd ht (fun h => kt h hC hz H locs ls hP hS hl) (fun h => kf h hC hz H locs ls hP hS hl)
theorem N_sub {L' : List (Nat × Value)} (ks : List Nat) (hL : lv_pick L ks = L') (kk : JN κ E f Q k n L' g t pc st) : JN κ E f Q k n L g t pc st := by
  intro hC hz H locs ls hP hS hl
  refine kk hC hz H locs ls hP hS (lv_sub hl ks ?_)
  rw [← hL]
  simp only [lv_pick, lvm, List.map_filterMap, List.getElem?_map]
/-- a new object -/
theorem N_new {ci i : Nat} {C : String} {T : u_T} {N : Nat} {fs : List Value} (hlay : ∀ w ∈ u_ws C T N, w ∈ SWL) (ty : Nat → FieldType) (hty : ∀ k, k < N → parseFieldDescriptor (T k).2.2.1 = some (ty k)) (hcl : Cond.classLink f.1.cls i C ∈ SWL) (hinst : Cond.instantiable C N ∈ SWL) (hini : Cond.initialized C ∈ SWL) (hc : vwCl[ci]? = some (C, T, N)) (hfs : ∀ j, j < N → defaultValue (ty j) = vp_V fs j) (hk : k + 1 ≤ f.2.2.2.2.2.2.1) (hn : n + N ≤ f.2.2.2.2.2.2.2.1) (ht : t < 53) (hd : decode f.2.1 pc = .ok (.new i, 3))
    (kk : JN κ E f Q (k + 1) (n + N) L (gs g t (.inr (ci, fs))) (t + 1) (pc + 3) (.ref t :: st)) : JN κ E f Q k n L g t pc st := by
  intro hC hz H locs ls hP hS hl
  obtain ⟨hx, hb, hml, hrt, hown, hts, hlk, hR, hSx, hE, hnm⟩ := id hC
  refine va_new (ci := ci) (fs := fs) hx hb hts hlay ty hty hown (hts _ hcl) (hts _ hinst) (hts _ hini) hSx.1 hP (mkP_D (by omega)) hS (Ar_z hE.1) hc hfs (by rw [hR]; exact hk) (by rw [hR]; exact hn) hd (fun q H1 hP1 hD1 hS1 => ?_)
  refine kW_sz (κ := κ) (fun hsz => ?_)
  have hq := q_eq ht hP1 hD1 hsz hz
  subst hq
  rw [mkP_push] at hP1
  exact kk hC (by omega) H1 locs ls hP1 hS1 hl
/-- a new array of a plain type -/
theorem N_newa {atype : ArrayType} {ty : FieldType} {j N : Nat} {v : Int32} {a0 : vp_A} (harr : Cond.arrayClass (newarray.typeOf atype) ∈ SWL) (hty : newarray.typeOf atype = ty) (hj : (tysE E)[j]? = some (E.2.2.1 j, ty)) (hra : ∀ (U : State) (c : ClassId), va_RA U c ty → U.vm.findClass ("[" ++ ty.toString) = some c) (ha : ∀ cA : ClassId, vp_cell cA a0 = arrV cA N (fun _ => defaultValue ty)) (hn0 : ¬ v < 0) (hN : v.toNatClampNeg = N) (hbytes : N * componentBytes ty ≤ 536870912) (hk : k + 1 ≤ f.2.2.2.2.2.2.1) (hn : n + N ≤ f.2.2.2.2.2.2.2.1) (ht : t < 53) (hd : decode f.2.1 pc = .ok (.newarray atype, 2))
    (kk : JN κ E f Q (k + 1) (n + N) L (gs g t (.inl (E.2.2.1 j, a0))) (t + 1) (pc + 2) (.ref t :: st)) : JN κ E f Q k n L g t pc (.int v :: st) := by
  intro hC hz H locs ls hP hS hl
  obtain ⟨hx, hb, hml, hrt, hown, hts, hlk, hR, hSx, hE, hnm⟩ := id hC
  refine va_newa (a0 := a0) hx hb (hts _ harr) hty hSx.1 hP (mkP_D (by omega)) hS (Ar_z hE.1) ha hn0 hN hbytes (by rw [hR]; exact hk) (by rw [hR]; exact hn) hd (fun q cA H1 hK1 hP1 hD1 hS1 => ?_)
  refine kW_sz (κ := κ) (fun hsz => ?_)
  have hq := q_eq ht hP1 hD1 hsz hz
  subst hq
  have h1 := hra _ _ (hK1.2 2 (cA, ty) rfl).2
  have h2 := hra _ _ (hSx.1.2 j _ hj).2
  have hcA : cA = E.2.2.1 j := Option.some.inj (h1.symm.trans h2)
  subst hcA
  rw [mkP_push] at hP1
  exact kk hC (by omega) H1 locs ls hP1 hS1 hl
end NR
