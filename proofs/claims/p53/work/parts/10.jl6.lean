/-! ===== J: throws, catches ===== -/
theorem stW_ot {w : Cond} (h : stW w = true) : vx_ot w = true := by
  unfold stW at h
  split at h
  · rfl
  · rfl
  · rfl
  · simp only [vx_ot, h, Bool.or_true]
section JT
variable {κ : Kx} {E : En} {f : MI} {Q : State → Prop} {k n : Nat} {L : List (Nat × Value)} {M M' : Wd} {pc : Nat} {st : List Value}
theorem J_thrown {o : Oc} {X : String} {H : Heap} {locs : List Loc} (ho : o = .inr X) (hP : va_P E.2.1 vwCl (mk E M) H) (hS : va_S (Ar E) κ.2.2.2.2.1.heap H locs) : ∀ t : State, κ.2.2.2.2.1.vm.Alike t.vm → H.size ≤ t.heap.size → (∀ q : Nat, q < H.size → t.heap[q]? = H[q]?) → XV E o M X κ.2.2.2.2.1 t :=
  fun t _ hz hq => ⟨ho, hP.kept fun _ _ hk => hq _ (vx_lt hP hk), Nat.le_trans hS.1 hz, fun q h1 h2 => by rw [hq q (Nat.lt_of_lt_of_le h1 hS.1)]; exact hS.2.1 q h1 h2⟩
/-- throw new X("text") -/
theorem J_throwS {o : Oc} {X text : String} {ik is ic : Nat} (ho : o = .inr X) (hM : M = M') (hh0 : f.2.2.2.2.2.2.2.2 = []) (hcls : Bundle.fit X = true) (hk : Cond.classLink f.1.cls ik X ∈ SWL) (hini : Cond.initialized X ∈ SWL) (hstr : (f.1.cls, is, text) ∈ strL) (hat : ∀ w ∈ vx_atS f.1.cls ic X ["java/lang/RuntimeException", "java/lang/Exception"], w ∈ SWL)
    (d0 : decode f.2.1 pc = .ok (.new ik, 3)) (d3 : decode f.2.1 (pc + 3) = .ok (.dup, 1)) (d4 : decode f.2.1 (pc + 4) = .ok (.ldc is, 2)) (d6 : decode f.2.1 (pc + 6) = .ok (.invokespecial ic, 3)) (d9 : decode f.2.1 (pc + 9) = .ok (.athrow, 1))
    (hrm : (5 < f.2.2.2.2.1 ∧ (st.map fun v => v.category).sum + 82 ≤ f.2.2.2.2.2.1) ∧ k + 1 ≤ f.2.2.2.2.2.2.1 ∧ n + 6 ≤ f.2.2.2.2.2.2.2.1) : J κ E f (Qm κ E f o M') k n L M pc st := by
  subst hM
  intro hC H locs ls hP hS hl
  obtain ⟨hx, hb, hml, hrt, hown, hts, hlk, hR, hSx, hl0, -, het⟩ := hC
  obtain ⟨sa, hsa⟩ := hSx.2.2.2.1 _ hstr
  exact vx_throwS (names := ["java/lang/RuntimeException", "java/lang/Exception"]) hx hb hl0 hown hcls (by decide +kernel) (hts _ hk) (hts _ hini) hsa (fun w hw => hts w (hat w hw))
    (fun w hw => by
      rcases List.mem_cons.mp hw with rfl | hw
      · exact stW_ot (List.mem_filter.mp hk).2
      · rcases List.mem_cons.mp hw with rfl | hw
        · exact stW_ot (List.mem_filter.mp hini).2
        · exact stW_ot (List.mem_filter.mp (hat w hw)).2)
    hSx.2.1 hSx.2.2.1 hS (by rw [hl.1, hml]) d0 d3 d4 d6 d9 (fun x h => by rw [het, hh0] at h; cases h) (by rw [hR]; exact hrm.1.1) (by rw [hR, cvs_sum]; exact hrm.1.2) (by rw [hR]; exact hrm.2.1) (by rw [hR]; exact hrm.2.2) hlk (J_thrown ho hP hS) hS.2.2 hrm.2.1 hrm.2.2
/-- the same, the text by a wide index -/
theorem J_throwSW {o : Oc} {X text : String} {ik is ic : Nat} (ho : o = .inr X) (hM : M = M') (hh0 : f.2.2.2.2.2.2.2.2 = []) (hcls : Bundle.fit X = true) (hk : Cond.classLink f.1.cls ik X ∈ SWL) (hini : Cond.initialized X ∈ SWL) (hstr : (f.1.cls, is, text) ∈ strL) (hat : ∀ w ∈ vx_atS f.1.cls ic X ["java/lang/RuntimeException", "java/lang/Exception"], w ∈ SWL)
    (d0 : decode f.2.1 pc = .ok (.new ik, 3)) (d3 : decode f.2.1 (pc + 3) = .ok (.dup, 1)) (d4 : decode f.2.1 (pc + 4) = .ok (.ldc_w is, 3)) (d7 : decode f.2.1 (pc + 7) = .ok (.invokespecial ic, 3)) (d10 : decode f.2.1 (pc + 10) = .ok (.athrow, 1))
    (hrm : (5 < f.2.2.2.2.1 ∧ (st.map fun v => v.category).sum + 82 ≤ f.2.2.2.2.2.1) ∧ k + 1 ≤ f.2.2.2.2.2.2.1 ∧ n + 6 ≤ f.2.2.2.2.2.2.2.1) : J κ E f (Qm κ E f o M') k n L M pc st := by
  subst hM
  intro hC H locs ls hP hS hl
  obtain ⟨hx, hb, hml, hrt, hown, hts, hlk, hR, hSx, hl0, -, het⟩ := hC
  obtain ⟨sa, hsa⟩ := hSx.2.2.2.1 _ hstr
  exact vx_throwSW (names := ["java/lang/RuntimeException", "java/lang/Exception"]) hx hb hl0 hown hcls (by decide +kernel) (hts _ hk) (hts _ hini) hsa (fun w hw => hts w (hat w hw))
    (fun w hw => by
      rcases List.mem_cons.mp hw with rfl | hw
      · exact stW_ot (List.mem_filter.mp hk).2
      · rcases List.mem_cons.mp hw with rfl | hw
        · exact stW_ot (List.mem_filter.mp hini).2
        · exact stW_ot (List.mem_filter.mp (hat w hw)).2)
    hSx.2.1 hSx.2.2.1 hS (by rw [hl.1, hml]) d0 d3 d4 d7 d10 (fun x h => by rw [het, hh0] at h; cases h) (by rw [hR]; exact hrm.1.1) (by rw [hR, cvs_sum]; exact hrm.1.2) (by rw [hR]; exact hrm.2.1) (by rw [hR]; exact hrm.2.2) hlk (J_thrown ho hP hS) hS.2.2 hrm.2.1 hrm.2.2
theorem adr_raw (E : En) (q : Nat) : adr E (q + 64) = q := by
  unfold adr
  rw [if_neg (by omega)]
  omega
/-- caught by the row x of f's table -/
theorem Jk_catch {g : MI} {rest : List Value} {X : String} (pre suf : List (Nat × Nat × Nat × Nat)) (x : Nat × Nat × Nat × Nat) (hsplit : f.2.2.2.2.2.2.2.2 = pre ++ x :: suf) (hpass : ∀ z ∈ pre, z.2.2.2 ≠ 0 ∧ ∃ nm : String, Cond.classLink f.1.cls z.2.2.2 nm ∈ SWL ∧ (X, nm) ∈ ncL) (hx : covers ⟨x.1, x.2.1, x.2.2.1, x.2.2.2⟩ pc = true) (h0 : x.2.2.2 ≠ 0) (hlink : Cond.classLink f.1.cls x.2.2.2 X ∈ SWL) (hcast : Cond.castable X X ∈ SWL)
    (kk : ∀ q : Nat, J κ E f Q (k + g.2.2.2.2.2.2.1) (n + g.2.2.2.2.2.2.2.1) L M' x.2.2.1 [.ref (q + 64)]) : Jk κ E f g Q k n L M' pc rest (.inr X) := by
  intro hC
  refine ⟨fun _ ho => (by cases ho), fun X' ho ce q H1 locs1 ls hP1 hS1 hl h1 h2 h3 => ?_⟩
  cases ho
  have h9 := kk q hC H1 locs1 ls hP1 hS1 hl
  obtain ⟨hx0, hb, hml, hrt, hown, hts, hlk, hR, hSx, hl0, -, het⟩ := hC
  refine vx_catch hown (pre.map fun q => ⟨q.1, q.2.1, q.2.2.1, q.2.2.2⟩) ⟨x.1, x.2.1, x.2.2.1, x.2.2.2⟩ (suf.map fun q => ⟨q.1, q.2.1, q.2.2.1, q.2.2.2⟩) (by rw [het, hsplit]; simp [tableOf]) (fun z hz => ?_) hx h0 (hts _ hlink) (hts _ hcast) h1 h2 h3 ?_
  · obtain ⟨z', hz', rfl⟩ := List.mem_map.mp hz
    obtain ⟨e1, nm, e2, e3⟩ := hpass z' hz'
    exact Or.inr ⟨e1, nm, hts _ e2, hSx.2.2.2.2 _ e3⟩
  · have h8 : cvs E [Value.ref (q + 64)] = [.ref q] := by
      show [Value.ref (adr E (q + 64))] = [.ref q]
      rw [adr_raw]
    rw [h8] at h9
    exact h9
end JT
