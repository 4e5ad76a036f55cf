/-! ===== J: rows of fields, arrays, calls, throws ===== -/
section JF
variable {κ : Kx} {E : En} {f : MI} {Q : State → Prop} {k n : Nat} {L L' : List (Nat × Value)} {M M' : Wd} {pc : Nat} {st : List Value}
/-- getfield: the cell c is an object of the class ci, its field j holds v -/
theorem J_get {c ci i : Nat} {C ref : String} {T : u_T} {N : Nat} {fs : List Value} {v : Value} (hj : jc E M c = .inr (ci, fs)) (hc : c < 53) (hcl : vwCl[ci]? = some (C, T, N)) (hlay : ∀ w ∈ u_ws C T N, w ∈ SWL) (j : Nat) (hk : j < N) (hlink : Cond.fieldLink f.1.cls i ref (T j).2.1 (T j).2.2.1 ∈ SWL) (hsame : (T j).1 = ref) (hv : fs[j]? = some (cv E v)) (hd : decode f.2.1 pc = .ok (.getfield i, 3))
    (kk : J κ E f Q k n L M (pc + 3) (v :: st)) : J κ E f Q k n L M pc (.ref c :: st) := by
  intro hC H locs ls hP hS hl
  exact va_get hC.1 hC.2.1 hC.2.2.2.2.2.1 hlay hC.2.2.2.2.1 hC.2.2.2.2.2.2.2.2.1.1 hP c (by rw [mk_get hc, hj]) hcl j hk (hC.2.2.2.2.2.1 _ hlink) (fun x h => by rw [← hsame]; exact h) hv hd (kk hC H locs ls hP hS hl)
/-- putfield of a field that is not final -/
theorem J_put {c ci i : Nat} {C ref : String} {T : u_T} {N : Nat} {fs : List Value} {v : Value} (hj : jc E M c = .inr (ci, fs)) (hc : c < 53) (hcl : vwCl[ci]? = some (C, T, N)) (hlay : ∀ w ∈ u_ws C T N, w ∈ SWL) (ty0 : Nat → FieldType) (hty : ∀ k, k < N → parseFieldDescriptor (T k).2.2.1 = some (ty0 k)) (hnm : ∀ a, a < N → ∀ b, b < N → a ≠ b → (T a).2.1 ≠ (T b).2.1) (j : Nat) (hk : j < N) (hlink : Cond.fieldLink f.1.cls i ref (T j).2.1 (T j).2.2.1 ∈ SWL) (hsame : (T j).1 = ref) (hfin : (T j).2.2.2 = false) (hn : narrow (ty0 j) (cv E v) = cv E v) (hfit : fits (ty0 j) (cv E v) = true) (hlen : j < fs.length) (hj' : jc E M' c = .inr (ci, fs.set j (cv E v))) (hne : ∀ i, i ≠ c → jc E M' i = jc E M i) (hd : decode f.2.1 pc = .ok (.putfield i, 3))
    (kk : J κ E f Q k n L M' (pc + 3) st) : J κ E f Q k n L M pc (v :: .ref c :: st) := by
  intro hC H locs ls hP hS hl
  refine va_put hC.1 hC.2.1 hC.2.2.2.2.2.1 hlay ty0 hty hnm hC.2.2.2.2.1 hC.2.2.2.2.2.2.2.2.1.1 hP mk_D hS c (by rw [mk_get hc, hj]) hcl j hk (hC.2.2.2.2.2.1 _ hlink) (fun x h => by rw [← hsame]; exact h) hfin (hty j hk) hn hfit hlen hd (fun H1 locs1 hP1 _ hS1 => ?_)
  rw [mk_set hc hj' hne] at hP1
  exact kk hC H1 locs1 ls hP1 hS1 hl
theorem jc_iarr {c N : Nat} (hj : jc E M c = .inl (E.2.2.1 0, N, .inl (M.1 c))) (hc : c < 53) : (mk E M)[c]? = some (adr E c, .inl (E.2.2.1 0, N, .inl (M.1 c))) := by rw [mk_get hc, hj]
theorem J_iald {c N : Nat} {i : Int32} (hj : jc E M c = .inl (E.2.2.1 0, N, .inl (M.1 c))) (hc : c < 53) (hin : vp_in i N) (hd : decode f.2.1 pc = .ok (.iaload, 1))
    (kk : J κ E f Q k n L M (pc + 1) (.int (M.1 c i.toNatClampNeg) :: st)) : J κ E f Q k n L M pc (.int i :: .ref c :: st) := by
  intro hC H locs ls hP hS hl
  exact va_iald hC.1 hC.2.1 hC.2.2.2.2.2.2.2.2.1.1 hP c 0 (jc_iarr hj hc) rfl hin hd (kk hC H locs ls hP hS hl)
theorem upI_row {c j : Nat} {v : Int32} : (upI M c j v).1 c = upd (M.1 c) j v := if_pos rfl
theorem upI_row_ne {c c' j : Nat} {v : Int32} (h : c' ≠ c) : (upI M c j v).1 c' = M.1 c' := if_neg h
theorem J_iast {c N : Nat} {i x : Int32} (hj : ∀ M : Wd, jc E M c = .inl (E.2.2.1 0, N, .inl (M.1 c))) (hc : c < 53) (hin : vp_in i N) (hd : decode f.2.1 pc = .ok (.iastore, 1))
    (kk : J κ E f Q k n L (upI M c i.toNatClampNeg x) (pc + 1) st) : J κ E f Q k n L M pc (.int x :: .int i :: .ref c :: st) := by
  intro hC H locs ls hP hS hl
  refine va_iast hC.1 hC.2.1 hC.2.2.2.2.2.2.2.2.1.1 hP mk_D hS c 0 (jc_iarr (hj M) hc) rfl hin hd (fun H1 locs1 hP1 _ hS1 => ?_)
  rw [mk_set hc (M' := upI M c i.toNatClampNeg x) (by rw [hj, upI_row]) jc_ne_I] at hP1
  exact kk hC H1 locs1 ls hP1 hS1 hl
/-- the saved parks (13) -/
theorem J_aald {i : Int32} (hin : vp_in i 5) (hd : decode f.2.1 pc = .ok (.aaload, 1))
    (kk : J κ E f Q k n L M (pc + 1) (.ref (M.2.2 i.toNatClampNeg) :: st)) : J κ E f Q k n L M pc (.int i :: .ref 13 :: st) := by
  intro hC H locs ls hP hS hl
  exact va_aldq hC.1 hC.2.1 hC.2.2.2.2.2.2.2.2.1.1 hP 13 1 (cA := E.2.2.1 1) (n := 5) (C := "CarTangos$Park") (f := fun j => some (adr E (M.2.2 j))) (by rw [mk_get (by decide)]; rfl) rfl hin hd (kk hC H locs ls hP hS hl)
theorem jc_pk {b : Nat} (hb : isPk b = true) : jc E M b = .inr (1, [.ref (adr E (b + 1)), .ref (adr E (b + 2)), .ref (adr E (b + 3)), .ref (adr E (b + 4)), .ref (adr E (b + 5)), .int (M.1 b 5), .int (M.1 b 6), .int (M.1 b 7), .int (M.1 b 8), .int (M.1 b 9)]) := by
  simp only [isPk, Bool.or_eq_true, beq_iff_eq] at hb
  rcases hb with (((((rfl | rfl) | rfl) | rfl) | rfl) | rfl) | rfl <;> rfl
theorem jpk_lt {b : Nat} (hb : isPk b = true) : b < 39 := by
  simp only [isPk, Bool.or_eq_true, beq_iff_eq] at hb
  omega
theorem J_aast {i : Int32} {b : Nat} (hb : isPk b = true) (hin : vp_in i 5) (hd : decode f.2.1 pc = .ok (.aastore, 1))
    (kk : J κ E f Q k n L (upP M i.toNatClampNeg b) (pc + 1) st) : J κ E f Q k n L M pc (.ref b :: .int i :: .ref 13 :: st) := by
  intro hC H locs ls hP hS hl
  have hb' := jpk_lt hb
  refine va_astq hC.1 hC.2.1 hC.2.2.2.2.2.2.2.2.1.1 hP mk_D hS 13 1 b 1 (cA := E.2.2.1 1) (n := 5) (r := (RX1, TX1, 10)) (f := fun j => some (adr E (M.2.2 j))) (by rw [mk_get (by decide)]; rfl) rfl (by rw [mk_get (by omega), jc_pk hb]) rfl hin hd (fun H1 locs1 hP1 _ hS1 => ?_)
  have h9 := mk_set (E := E) (M := M) (M' := upP M i.toNatClampNeg b) (c := 13) (e := .inl (E.2.2.1 1, 5, .inr (.inr (.inr (.inr (va_up (fun j => some (adr E (M.2.2 j))) i.toNatClampNeg (some (adr E b)))))))) (by decide) (by
    have h8 : (fun j => some (adr E ((upP M i.toNatClampNeg b).2.2 j))) = va_up (fun j => some (adr E (M.2.2 j))) i.toNatClampNeg (some (adr E b)) := by
      funext j
      simp only [upP, va_up]
      by_cases hj : j = i.toNatClampNeg
      · rw [if_pos hj, if_pos hj]
      · rw [if_neg hj, if_neg hj]
    rw [← h8]
    rfl) jc_ne_P
  rw [h9] at hP1
  exact kk hC H1 locs1 ls hP1 hS1 hl
end JF
