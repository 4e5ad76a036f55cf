section NC
variable {n w k : Nat} {z : Int} {L P G lc : Nat → Nat} {lb : Nat → Int} {N : Wd}
theorem hasSlide_I {M : Wd} (h : PkC 1 n w k z L P G lc lb M) (hW : PkW n w k z L P G lc lb) {c : Int} (c1 : -2147483648 ≤ c) (c2 : c < 2147483648) : F_X1_hasSlide (iI c) M = if 0 ≤ c ∧ c < (k : Int) then iI 1 else iI 0 := by
  have hk := hW.k60
  unfold F_X1_hasSlide
  rw [h.vk, iL_0, show (60 : Int32) = iI 60 from rfl, iL_1, if_lt (by omega) (by omega) (by omega) (by omega), if_le (by omega) (by omega) (by omega) (by omega), if_le (by omega) (by omega) (by omega) (by omega)]
  by_cases e : 0 ≤ c ∧ c < (k : Int)
  · rw [if_neg (by omega), if_neg (by omega), if_neg (by omega), if_pos e]
  · rw [if_neg e]
    by_cases e1 : c < 0
    · rw [if_pos e1]
    · rw [if_neg e1, if_pos (by omega)]
end NC
theorem isB10 {p : Prop} [Decidable p] : isB (if p then iI 1 else iI 0) := by
  by_cases e : p
  · rw [if_pos e]; exact Or.inr rfl
  · rw [if_neg e]; exact Or.inl rfl
theorem sgn_ite (a : Int32) : (if a = 0 then (-1 : Int32) else (1 : Int32)) = iI (sgn (decide (a ≠ 0))) := by
  by_cases e : a = 0
  · rw [if_pos e, decide_eq_false (fun z => z e)]; rfl
  · rw [if_neg e, decide_eq_true e]; rfl
