/-! ===== J: a judgement over the machine with the whole world in one value. Words, world, context ===== -/
/-- words that stay true when the tables grow warmer -/
def stW (w : Cond) : Bool := match w with
  | .castable _ _ => true
  | .methodLinkNest _ _ _ _ => true
  | .declares _ => true
  | w => goodWord w
theorem stW_warm {w : Cond} (hw : stW w = true) {args a' : Array Value} {s U : State} (hW : s.WarmedH U.vm) (h : w.before args s = true) : w.before a' U = true := by
  unfold stW at hw
  split at hw
  · exact va_Nw.use rfl (va_Nw.warmC hW (va_Nw.of rfl h))
  · exact va_Nw.use rfl (va_Nw.warmM hW (va_Nw.of rfl h))
  · exact va_Nw.use rfl (va_Nw.warmD hW (va_Nw.of rfl h))
  · exact word_at hW (good_of_word hw) h
/-- the one list of words -/
def SWL : List Cond := lw_tbl.filter stW
theorem SWL_mem (i : Nat) {w : Cond} (h : lw_tbl[i]? = some w) (hs : stW w = true) : w ∈ SWL := List.mem_filter.mpr ⟨List.mem_of_getElem? h, hs⟩
theorem SWL_warm {args : Array Value} {s : State} (h : ∀ w ∈ SWL, w.before args s = true) : ∀ w ∈ SWL, ∀ (a' : Array Value) (U : State), s.WarmedH U.vm → w.before a' U = true :=
  fun w hw _ _ hW => stW_warm (List.mem_filter.mp hw).2 hW (h w hw)
/-- the world: ints by cell and place, longs by cell and place, the saved parks' cells by place -/
abbrev Wd : Type := (Nat → Nat → Int32) × (Nat → Nat → Int64) × (Nat → Nat)
/-- where it lies: its first address, classes and slots, the array classes (0 int, 1 Park), the top, two that are free -/
abbrev En : Type := Nat × va_G × (Nat → ClassId) × Nat × Nat × (Nat → Int32)
def upI (M : Wd) (c k : Nat) (v : Int32) : Wd := (fun a => if a = c then upd (M.1 a) k v else M.1 a, M.2.1, M.2.2)
def upR (M : Wd) (c : Nat) (f : Nat → Int32) : Wd := (fun a => if a = c then f else M.1 a, M.2.1, M.2.2)
def upL (M : Wd) (c k : Nat) (v : Int64) : Wd := (M.1, fun a => if a = c then vp_updL (M.2.1 a) k v else M.2.1 a, M.2.2)
def upP (M : Wd) (k : Nat) (v : Nat) : Wd := (M.1, M.2.1, fun j => if j = k then v else M.2.2 j)
/-- a cell's address: 0 to 52 the world's cells, 64 + a the address a -/
def adr (E : En) (i : Nat) : Nat := if i < 53 then E.1 + i else i - 64
theorem adr_lt {E : En} {i : Nat} (h : i < 53) : adr E i = E.1 + i := if_pos h
def cv (E : En) (v : Value) : Value := match v with
  | .ref i => .ref (adr E i)
  | w => w
theorem cv_cat (E : En) (v : Value) : (cv E v).category = v.category := by cases v <;> rfl
def isPk (i : Nat) : Bool := i == 1 || i == 7 || i == 14 || i == 20 || i == 26 || i == 32 || i == 38
/-- int arrays' lengths -/
def alen (i : Nat) : Nat := ([0, 0, 6, 6, 6, 60, 60, 0, 6, 6, 6, 60, 60, 0, 0, 6, 6, 6, 60, 60, 0, 6, 6, 6, 60, 60, 0, 6, 6, 6, 60, 60, 0, 6, 6, 6, 60, 60, 0, 6, 6, 6, 60, 60, 0, 6, 4096, 4096, 4096, 16384, 4, 0, 60] : List Nat).getD i 0
/-- what a cell holds -/
def jcR (E : En) (i : Nat) (r : Nat → Int32) (lr : Nat → Int64) (pr : Nat → Nat) : va_E :=
  if i = 0 then .inr (3, [.ref (adr E 1), .ref (adr E 7), .ref (adr E 13), .ref (adr E 44), .ref (adr E 51), .int (r 5), .int (r 6)])
  else if i = 44 then .inr (0, [.ref (adr E 45), .ref (adr E 46), .ref (adr E 47), .ref (adr E 48), .ref (adr E 49), .ref (adr E 50), .int (r 6), .int (r 7), .int (r 8), .int (r 9), .int (r 10), .int (r 11)])
  else if i = 51 then .inr (2, [.ref (adr E 52), .int (r 1)])
  else if isPk i = true then .inr (1, [.ref (adr E (i + 1)), .ref (adr E (i + 2)), .ref (adr E (i + 3)), .ref (adr E (i + 4)), .ref (adr E (i + 5)), .int (r 5), .int (r 6), .int (r 7), .int (r 8), .int (r 9)])
  else if i = 13 then .inl (E.2.2.1 1, 5, .inr (.inr (.inr (.inr (fun j => some (adr E (pr j)))))))
  else .inl (E.2.2.1 0, alen i, .inl r)
def jc (E : En) (M : Wd) (i : Nat) : va_E := jcR E i (M.1 i) (M.2.1 i) M.2.2
def mk (E : En) (M : Wd) : va_W := (List.range 53).map (fun i => (adr E i, jc E M i))
theorem mk_get {E : En} {M : Wd} {i : Nat} (hi : i < 53) : (mk E M)[i]? = some (adr E i, jc E M i) := by
  simp [mk, List.getElem?_range hi]
theorem mk_at {E : En} {M : Wd} {i : Nat} {q : Nat × va_E} (h : (mk E M)[i]? = some q) : i < 53 ∧ q = (adr E i, jc E M i) := by
  have hi : i < 53 := by
    have := (List.getElem?_eq_some_iff.mp h).1
    simpa [mk] using this
  exact ⟨hi, Option.some.inj (h.symm.trans (mk_get hi))⟩
theorem mk_len {E : En} {M : Wd} : (mk E M).length = 53 := by simp [mk]
theorem mk_set {E : En} {M M' : Wd} {c : Nat} {e : va_E} (hc : c < 53) (he : jc E M' c = e) (h : ∀ i, i ≠ c → jc E M' i = jc E M i) : (mk E M).set c (adr E c, e) = mk E M' := by
  apply List.ext_getElem?
  intro i
  by_cases hi : i < 53
  · by_cases hic : i = c
    · subst hic
      rw [List.getElem?_set_self (by rw [mk_len]; exact hi), mk_get hi, he]
    · rw [List.getElem?_set_ne (fun q => hic q.symm), mk_get hi, mk_get hi, h i hic]
  · rw [List.getElem?_eq_none (by rw [List.length_set, mk_len]; omega), List.getElem?_eq_none (by rw [mk_len]; omega)]
/-- what may change: the world's own cells, and all from the top on (E.2.2.2.1; 0: all from the world's begin on) -/
def Ar (E : En) : Nat → Prop := fun q => E.1 ≤ q ∧ (q < E.1 + 53 ∨ E.2.2.2.1 ≤ q)
theorem mk_D {E : En} {M : Wd} : va_D (Ar E) (mk E M) := by
  refine ⟨fun i j p q hi hj h => ?_, fun k q hk => ?_⟩
  · obtain ⟨h1, rfl⟩ := mk_at hi
    obtain ⟨h2, rfl⟩ := mk_at hj
    have h3 : adr E i = adr E j := h
    rw [adr_lt h1, adr_lt h2] at h3
    omega
  · obtain ⟨h1, rfl⟩ := mk_at hk
    show E.1 ≤ adr E k ∧ (adr E k < E.1 + 53 ∨ E.2.2.2.1 ≤ adr E k)
    rw [adr_lt h1]
    omega
theorem jc_ne_I {E : En} {M : Wd} {c k : Nat} {v : Int32} : ∀ i, i ≠ c → jc E (upI M c k v) i = jc E M i := by
  intro i hi
  simp only [jc, upI, if_neg hi]
theorem jc_ne_R {E : En} {M : Wd} {c : Nat} {f : Nat → Int32} : ∀ i, i ≠ c → jc E (upR M c f) i = jc E M i := by
  intro i hi
  simp only [jc, upR, if_neg hi]
theorem jc_ne_L {E : En} {M : Wd} {c k : Nat} {v : Int64} : ∀ i, i ≠ c → jc E (upL M c k v) i = jc E M i := by
  intro i hi
  simp only [jc, upL, if_neg hi]
theorem jc_ne_P {E : En} {M : Wd} {k : Nat} {v : Nat} : ∀ i, i ≠ 13 → jc E (upP M k v) i = jc E M i := by
  intro i hi
  simp only [jc, upP, jcR, if_neg hi]
abbrev tysE (E : En) : List (ClassId × FieldType) := [(E.2.2.1 0, FieldType.int), (E.2.2.1 1, FieldType.object "CarTangos$Park")]
/-- the texts of the exceptions -/
def strL : List (String × Nat × String) := [("CarTangos", 313, "there is no such lane, cell or car"), ("CarTangos", 315, "an argument is out of range"), ("CarTangos", 317, "the park does not allow it"), ("CarTangos", 64, "there is no car"), ("CarTangos", 88, "the log is full"), ("CarTangos", 93, "the log is empty"), ("CarTangos", 101, "there is no plan that the log has room for"), ("CarTangos", 108, "no such character code"), ("CarTangos", 114, "the buffer is full"), ("CarTangos", 129, "the buffer is not complete works"), ("CarTangos", 143, "the latest work did not stop"), ("CarTangos", 145, "there is no saved state"), ("CarTangos", 151, "there is no snapshot"), ("CarTangos", 166, "there is no such car"), ("CarTangos", 182, "there is no such cell"), ("CarTangos", 202, "there is no such slide"), ("CarTangos", 240, "there is no next slide"), ("CarTangos", 269, "there are fewer than 2 cars"), ("CarTangos", 275, "a car or a wall is on the cell")]
/-- classes of exceptions that aren't castable to others -/
def ncL : List (String × String) := [("java/lang/IllegalArgumentException", "java/lang/IndexOutOfBoundsException"), ("java/lang/IllegalStateException", "java/lang/IndexOutOfBoundsException"), ("java/lang/IllegalStateException", "java/lang/IllegalArgumentException")]
/-- what stays: classes, the two statics of Throwable, texts -/
def Sx (E : En) (U : State) : Prop := va_K E.2.1 vwCl (tysE E) U ∧ vx_Zq Bundle.tN "UNASSIGNED_STACK" Bundle.steD (Ar E) U U.heap ∧ vx_Zq Bundle.tN "SUPPRESSED_SENTINEL" Bundle.listD (Ar E) U U.heap ∧ (∀ t ∈ strL, ∃ a, vk_R t.1 t.2.1 t.2.2 a U) ∧ ∀ t ∈ ncL, va_Nc t.1 t.2 U
def Rl (E : En) (M : Wd) (U : State) : Prop := va_P E.2.1 vwCl (mk E M) U.heap ∧ Sx E U
theorem Sx.to {E : En} {s U : State} {H : Heap} {locs : List Loc} {A : Nat → Prop} (hA : ∀ q, q < s.heap.size → A q → Ar E q) (h : Sx E s) (hS : va_S A s.heap H locs) (hU : U.heap = H) (hW : s.WarmedH U.vm) : Sx E U := by
  obtain ⟨h1, h2, h3, h4, h8⟩ := h
  subst hU
  have hK : ∀ a : Nat, a < s.heap.size → ¬ Ar E a → U.heap[a]? = s.heap[a]? := fun a ha hn => hS.2.1 a ha (fun q => hn (hA a ha q))
  refine ⟨va_K.moved hW.alike h1, vx_Zq.moved hW.alike (h2.kept hK), vx_Zq.moved hW.alike (h3.kept hK), fun t ht => ?_, fun t ht => va_Nc.moved hW.alike (h8 t ht)⟩
  obtain ⟨a, ha⟩ := h4 t ht
  exact ⟨a, vk_R.warm hW ha⟩
theorem Sx.calling {E : En} {U : State} (h : Sx E U) (g : JFrame) (mk' : MethodId) (a : Array Value) : Sx E (U.calling g mk' a) := by
  obtain ⟨h1, h2, h3, h4, h8⟩ := h
  have hA : U.vm.Alike (U.calling g mk' a).vm := Vm.Alike.refl U.vm
  refine ⟨va_K.moved hA h1, vx_Zq.moved hA h2, vx_Zq.moved hA h3, fun t ht => ?_, fun t ht => va_Nc.moved hA (h8 t ht)⟩
  obtain ⟨b, hb⟩ := h4 t ht
  exact ⟨b, vk_R.same rfl hb⟩
