/-! ===== Math.max, min, abs ===== -/
def F_max (x y : Int32) : Int32 := if x < y then y else x
def F_min (x y : Int32) : Int32 := if y < x then y else x
def F_abs (x : Int32) : Int32 := if 0 ≤ x then x else 0 - x
section JZ
variable {κ : Kx} {E : En} {f : MI} {Q : State → Prop} {k n : Nat} {L : List (Nat × Value)} {M : Wd} {pc : Nat} {st : List Value}
theorem J_mmax {i : Nat} {x y : Int32} (hlink : Cond.methodLink f.1.cls i yJ9_max_7cf53 ∈ SWL) (hcode : Cond.code yJ9_max_7cf53 cJ9_max_7cf53 2 (some .int) ∈ SWL) (hstat : Cond.static yJ9_max_7cf53 ∈ SWL) (hini : Cond.initialized "java/lang/Math" ∈ SWL) (hf : 1 ≤ f.2.2.2.2.1) (hl2 : (st.map fun v => v.category).sum + 13 ≤ f.2.2.2.2.2.1) (hk : k ≤ f.2.2.2.2.2.2.1) (hn : n ≤ f.2.2.2.2.2.2.2.1) (hd : decode f.2.1 pc = .ok (.invokestatic i, 3))
    (kk : J κ E f Q k n L M (pc + 3) (.int (F_max x y) :: st)) : J κ E f Q k n L M pc (.int y :: .int x :: st) := by
  intro hC H locs ls hP hS hl
  obtain ⟨hx, hbt, hml, hrt, hown, hts, hlk, hR, hSx, hl0, -⟩ := id hC
  have e1 : Lib.Math.max.name = yJ9_max_7cf53 := rfl
  have e2 : Lib.Math.max.code = cJ9_max_7cf53 := rfl
  exact va_mmax hx hbt (by rw [hml, hl.1]) hown (by rw [e1]; exact hts _ hlink) (by rw [e1]; exact hts _ hstat) (hts _ hini) (by rw [e1, e2]; exact hts _ hcode) (by rw [hR]; exact hf) (by rw [hR, cvs_sum]; exact hl2) (by rw [hR]; exact hk) (by rw [hR]; exact hn) hd (kk hC H locs ls hP hS hl)
theorem J_mmin {i : Nat} {x y : Int32} (hlink : Cond.methodLink f.1.cls i yJ9_min_7cf53 ∈ SWL) (hcode : Cond.code yJ9_min_7cf53 cJ9_min_7cf53 2 (some .int) ∈ SWL) (hstat : Cond.static yJ9_min_7cf53 ∈ SWL) (hini : Cond.initialized "java/lang/Math" ∈ SWL) (hf : 1 ≤ f.2.2.2.2.1) (hl2 : (st.map fun v => v.category).sum + 13 ≤ f.2.2.2.2.2.1) (hk : k ≤ f.2.2.2.2.2.2.1) (hn : n ≤ f.2.2.2.2.2.2.2.1) (hd : decode f.2.1 pc = .ok (.invokestatic i, 3))
    (kk : J κ E f Q k n L M (pc + 3) (.int (F_min x y) :: st)) : J κ E f Q k n L M pc (.int y :: .int x :: st) := by
  intro hC H locs ls hP hS hl
  obtain ⟨hx, hbt, hml, hrt, hown, hts, hlk, hR, hSx, hl0, -⟩ := id hC
  have e1 : Lib.Math.min.name = yJ9_min_7cf53 := rfl
  have e2 : Lib.Math.min.code = cJ9_min_7cf53 := rfl
  exact va_mmin hx hbt (by rw [hml, hl.1]) hown (by rw [e1]; exact hts _ hlink) (by rw [e1]; exact hts _ hstat) (hts _ hini) (by rw [e1, e2]; exact hts _ hcode) (by rw [hR]; exact hf) (by rw [hR, cvs_sum]; exact hl2) (by rw [hR]; exact hk) (by rw [hR]; exact hn) hd (kk hC H locs ls hP hS hl)
theorem J_mabs {i : Nat} {x : Int32} (hlink : Cond.methodLink f.1.cls i yJ9_abs_0f7a4 ∈ SWL) (hcode : Cond.code yJ9_abs_0f7a4 cJ9_abs_0f7a4 1 (some .int) ∈ SWL) (hstat : Cond.static yJ9_abs_0f7a4 ∈ SWL) (hini : Cond.initialized "java/lang/Math" ∈ SWL) (hf : 1 ≤ f.2.2.2.2.1) (hl2 : (st.map fun v => v.category).sum + 13 ≤ f.2.2.2.2.2.1) (hk : k ≤ f.2.2.2.2.2.2.1) (hn : n ≤ f.2.2.2.2.2.2.2.1) (hd : decode f.2.1 pc = .ok (.invokestatic i, 3))
    (kk : J κ E f Q k n L M (pc + 3) (.int (F_abs x) :: st)) : J κ E f Q k n L M pc (.int x :: st) := by
  intro hC H locs ls hP hS hl
  obtain ⟨hx, hbt, hml, hrt, hown, hts, hlk, hR, hSx, hl0, -⟩ := id hC
  have e1 : Lib.Math.abs.name = yJ9_abs_0f7a4 := rfl
  have e2 : Lib.Math.abs.code = cJ9_abs_0f7a4 := rfl
  exact va_mabs hx hbt (by rw [hml, hl.1]) hown (by rw [e1]; exact hts _ hlink) (by rw [e1]; exact hts _ hstat) (hts _ hini) (by rw [e1, e2]; exact hts _ hcode) (by rw [hR]; exact hf) (by rw [hR, cvs_sum]; exact hl2) (by rw [hR]; exact hk) (by rw [hR]; exact hn) hd (kk hC H locs ls hP hS hl)
end JZ
