/-! ===== the model's reader: parts ===== -/
section RD
variable {tl : Nat} {tc : Nat → Nat}
/-- read from q to q' -/
def ROK (tl : Nat) (tc : Nat → Nat) (s q q' t : Nat) : Prop := q ≤ q' ∧ q' ≤ tl ∧ erA tl tc s q = erA tl tc t q' ∧ fiA tl tc s q = fiA tl tc t q' ∧ cplS t ∧ (q' < tl → bh t (tc q') = if tc q' = 59 then 0 else 12) ∧ ∀ i, q ≤ i → i < q' → tc i ≠ 59
theorem rok_0 {q : Nat} (h : q ≤ tl) {t : Nat} (ht : cplS t) (hb : q < tl → bh t (tc q) = if tc q = 59 then 0 else 12) : ROK tl tc t q q t := ⟨Nat.le_refl _, h, rfl, rfl, ht, hb, fun i h1 h2 => by omega⟩
theorem rok_s {s q q' u t : Nat} (h : q < tl) (hb : bh s (tc q) = u) (hu : u ≠ 12) (h59 : tc q ≠ 59) (hr : ROK tl tc u (q + 1) q' t) : ROK tl tc s q q' t := by
  obtain ⟨r1, r2, r3, r4, r5, r6, r7⟩ := hr
  obtain ⟨o1, o2⟩ := ok_s (tc := tc) h hb hu
  refine ⟨by omega, r2, o1.trans r3, o2.trans r4, r5, r6, fun i h1 h2 => ?_⟩
  by_cases e : i = q
  · rw [e]; exact h59
  · exact r7 i (by omega) h2
theorem rok_11 {q : Nat} (h : q ≤ tl) : ROK tl tc 11 q q 11 := rok_0 h (Or.inl rfl) (fun _ => rfl)
theorem bh1 (c : Nat) : bh 1 c = if 48 ≤ c ∧ c ≤ 52 then 2 else 12 := rfl
theorem bh2 (c : Nat) : bh 2 c = if c = 46 then 3 else 12 := rfl
theorem bh3 (c : Nat) : bh 3 c = if 48 ≤ c ∧ c ≤ 51 then 4 else 12 := rfl
theorem bh4 (c : Nat) : bh 4 c = if c = 42 then 5 else 12 := rfl
theorem bh5 (c : Nat) : bh 5 c = if 50 ≤ c ∧ c ≤ 51 then 11 else 12 := rfl
theorem bh6 (c : Nat) : bh 6 c = if c = 43 ∨ c = 45 then 7 else 12 := rfl
theorem bh7 (c : Nat) : bh 7 c = if 49 ≤ c ∧ c ≤ 51 then 11 else 12 := rfl
theorem bh8 (c : Nat) : bh 8 c = if c = 49 then 9 else if c = 50 then 10 else if 48 ≤ c ∧ c ≤ 57 then 11 else 12 := rfl
theorem bh9 (c : Nat) : bh 9 c = if 48 ≤ c ∧ c ≤ 57 then 11 else if c = 59 then 0 else 12 := rfl
theorem bh10 (c : Nat) : bh 10 c = if 48 ≤ c ∧ c ≤ 52 then 11 else if c = 59 then 0 else 12 := rfl
theorem nc {s : Nat} (h : s < 9) : ¬ cplS s := by unfold cplS; omega
/-- what a part says, in the reader's fields -/
def VL (tl : Nat) (tc : Nat → Nat) (N : Wd) (p p' : Nat) : Prop :=
  ((tc p = 104 ∨ tc p = 118) → p + 6 = p' ∧ (48 ≤ tc (p + 1) ∧ tc (p + 1) ≤ 52) ∧ (48 ≤ tc (p + 3) ∧ tc (p + 3) ≤ 51) ∧ (50 ≤ tc (p + 5) ∧ tc (p + 5) ≤ 51) ∧ N.1 53 16 = iI ((if tc p = 104 then 0 else 5) + ((tc (p + 1) : Int) - 48)) ∧ N.1 53 17 = iI ((tc (p + 3) : Int) - 48) ∧ N.1 53 18 = iI ((tc (p + 5) : Int) - 48)) ∧
  (tc p = 119 → ∃ v, N.1 53 16 = iI v ∧ (0 ≤ v ∧ v ≤ 24) ∧ p + 1 < tl ∧ (48 ≤ tc (p + 1) ∧ tc (p + 1) ≤ 57) ∧ ((p' = p + 2 ∧ v = (tc (p + 1) : Int) - 48) ∨ (p' = p + 3 ∧ v = 10 * ((tc (p + 1) : Int) - 48) + ((tc (p + 2) : Int) - 48) ∧ 48 ≤ tc (p + 2) ∧ tc (p + 2) ≤ 57 ∧ p + 2 < tl))) ∧
  ((tc p = 98 ∨ tc p = 100) → p + 1 = p') ∧
  (48 ≤ tc p → tc p ≤ 53 → p + 3 = p' ∧ (tc (p + 1) = 43 ∨ tc (p + 1) = 45) ∧ (49 ≤ tc (p + 2) ∧ tc (p + 2) ≤ 51) ∧ N.1 53 16 = iI ((tc p : Int) - 48) ∧ N.1 53 17 = iI ((if tc (p + 1) = 43 then 1 else -1) * ((tc (p + 2) : Int) - 48)))
theorem bh0 (c : Nat) : bh 0 c = if c = 104 ∨ c = 118 then 1 else if c = 119 then 8 else if c = 98 ∨ c = 100 then 11 else if 48 ≤ c ∧ c ≤ 53 then 6 else 12 := rfl
end RD
