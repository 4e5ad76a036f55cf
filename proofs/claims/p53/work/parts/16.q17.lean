/-! ===== the model's answers by searches ===== -/
section MA
variable {n w k m : Nat} {z : Int} {L P G lc : Nat → Nat} {lb : Nat → Int}
theorem SrS_ex {w n m s : Nat} {L G : Nat → Nat} (hm : m < 1000) (hn : n ≤ 6) (hw : w < 33554432) (hLG : LGok L G n) (hv : VV w L G n s) : ∃ S, SrS w L G n m s S := fS_ex hm hn hw hLG hv
theorem SrE_ex {w n s : Nat} {L G : Nat → Nat} (hn : n ≤ 6) (hw : w < 33554432) (hLG : LGok L G n) (hv : VV w L G n s) : ∃ S, SrE w L G n S := fE_ex hn hw hLG hv
/-- the first m cars with walls ww in place of all with w -/
theorem encm_vv {ww : Nat} (hW : PkW n w k z L P G lc lb) (hm : m ≤ n) (hok : okb ww L G P m = true) : VV ww L G m (enc P m) := ⟨enc_lt fun i hi => hW.P4 (by omega), by rw [okc_enc fun i hi => hW.P4 (by omega)]; exact hok⟩
theorem n0_I {α : Type} {x y : α} (hn : n ≤ 6) : (if iI (n : Int) = (0 : Int32) then x else y) = if n = 0 then x else y := by
  rw [iL_0, if_eq (by omega) (by omega) (by omega) (by omega)]
  by_cases e : n = 0
  · rw [if_pos e, if_pos (by omega)]
  · rw [if_neg e, if_neg (by omega)]
theorem sm_cnt {l : List Nat} {p : Nat → Bool} : ∀ {N : Nat}, N ≤ l.length → fb_sm (fun i => if p (l.getD i 0) = true then 1 else 0) N = (l.take N).countP p
  | 0, _ => by rw [List.take_zero]; rfl
  | N + 1, h => by rw [fb_sm_succ, sm_cnt (N := N) (by omega), cnt_snoc (by omega)]
end MA
