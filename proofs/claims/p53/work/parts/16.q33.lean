/-! ===== a text's first error; a text's work ===== -/
def setZ (s : Pst) (z : Int) : Pst := (s.1, s.2.1, s.2.2.1, z, s.2.2.2.2)
theorem pW.z {s : Pst} {z : Int} (h : pW s) (hz : -1 ≤ z ∧ z < 1000) : pW (setZ s z) := ⟨h.1, h.2.1, h.2.2.1, h.2.2.2.1, h.2.2.2.2.1, hz, h.2.2.2.2.2.2⟩
theorem pC.z {s : Pst} {z : Int} {M : Wd} {a b : Int32} (h : pC 1 s M) (ha : a = if z = -1 then iI 0 else iI 1) (hb : z ≠ -1 → b = iI z) : pC 1 (setZ s z) (upI (upI M 1 8 a) 1 9 b) := by
  obtain ⟨h1, h2, h3, h4, h5, h6, h7, h8, h9, h10⟩ := h
  have ho : ∀ i, i ≠ 8 → i ≠ 9 → (upI (upI M 1 8 a) 1 9 b).1 1 i = M.1 1 i := fun i i1 i2 => by rw [upI_at, if_neg i2, upI_at, if_neg i1]
  have hr : ∀ c, c ≠ 1 → (upI (upI M 1 8 a) 1 9 b).1 c = M.1 c := fun c hc => by rw [upI_row_ne hc, upI_row_ne hc]
  refine ⟨?_, ?_, ?_, ?_, fun q => ?_, fun i hi => ?_, fun i hi => ?_, fun i hi => ?_, fun i hi => ?_, fun i hi => ?_⟩
  · rw [ho 5 (by decide) (by decide)]; exact h1
  · rw [ho 6 (by decide) (by decide)]; exact h2
  · rw [ho 7 (by decide) (by decide)]; exact h3
  · rw [upI_at, if_neg (by decide), upI_at, if_pos rfl]; exact ha
  · rw [upI_at, if_pos rfl]; exact hb q
  · rw [hr _ (by decide)]; exact h6 i hi
  · rw [hr _ (by decide)]; exact h7 i hi
  · rw [hr _ (by decide)]; exact h8 i hi
  · rw [hr _ (by decide)]; exact h9 i hi
  · rw [hr _ (by decide)]; exact h10 i hi
theorem savS_L {S : Wst} : sL (savS S) = sL S := by unfold savS; split <;> rfl
theorem savS_T {S : Wst} : sT (savS S) = sT S := by unfold savS; split <;> rfl
theorem CI.tk {S : Wst} {M : Wd} (h : CI S M) (hW : WI S) : Tk (sL S) (sT S) M := ⟨hW.2.2.2.2.1, hW.2.2.2.2.2, h.2.2.2.2.2.2.1, h.2.2.2.2.2.2.2⟩
theorem frW.c55 {M : Wd} {k : Nat} {v : Int32} : frW M (upI M 55 k v) := ⟨fun c hc => upI_row_ne (by omega), fun j _ _ _ => by rw [upI_row_ne (by decide)], rfl⟩
/-- the start of a reading -/
def rdS (N : Wd) : Wd := upI (upI (upI N 53 15 (0 : Int32)) 53 20 (0 : Int32)) 53 19 (0 : Int32)
theorem rdS_W {N : Wd} : frW N (rdS N) := ((frW.up (by omega)).tr (frW.up (by omega))).tr (frW.up (by omega))
theorem rdS_55 {N : Wd} : (rdS N).1 55 = N.1 55 := rfl
theorem rdS_15 {N : Wd} : (rdS N).1 53 15 = iI ((0 : Nat) : Int) := rfl
theorem rdS_20 {N : Wd} : (rdS N).1 53 20 = iI ((0 : Nat) : Int) := rfl
theorem rdS_19 {N : Wd} : (rdS N).1 53 19 = iI 0 := rfl
section RD
variable {tl : Nat} {tc : Nat → Nat}
end RD
