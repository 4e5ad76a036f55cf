/-! ===== calls that change more ===== -/
/-- all slides taken back -/
def rwP (lc : Nat → Nat) (lb : Nat → Int) : Nat → (Nat → Nat) → Nat → Nat
  | 0, P => P
  | k + 1, P => rwP lc lb k (updN P (lc k) ((P (lc k) : Int) - lb k).toNat)
section RW
variable {n w : Nat} {z : Int} {L G lc : Nat → Nat} {lb : Nat → Int}
theorem wf_back1 {k : Nat} {P : Nat → Nat} (hW : PkW n w (k + 1) z L P G lc lb) : ((((P (lc k) : Int) - lb k).toNat : Nat) : Int) = (P (lc k) : Int) - lb k ∧ PkW n w k z L (updN P (lc k) ((P (lc k) : Int) - lb k).toNat) G lc lb ∧ lc k < n := by
  obtain ⟨q, q1, q2, q3⟩ := wf_back hW
  rw [show ((P (lc k) : Int) - lb k).toNat = q by omega]
  exact ⟨q1, q2, q3⟩
theorem wf_rw : ∀ (k : Nat) (P : Nat → Nat), PkW n w k z L P G lc lb → PkW n w 0 z L (rwP lc lb k P) G lc lb
  | 0, _, h => h
  | k + 1, _, h => wf_rw k _ (wf_back1 h).2.1
theorem crw_loop {ρ : Type} {K : Int32 → Wd → Option ρ} : ∀ (k j q : Nat) (P : Nat → Nat) (M : Wd), j + k ≤ 60 → PkC 1 n w k z L P G lc lb M → PkW n w k z L P G lc lb →
    ∃ M', F_X3_rewind_L6 K (q + 1 + k) (iI (j : Int)) M = K (iI ((j + k : Nat) : Int)) M' ∧ PkC 1 n w 0 z L (rwP lc lb k P) G lc lb M' ∧ frC1 M M'
  | 0, j, q, P, M, hj, h, hW => by
    refine ⟨M, ?_, h, frC1.rf M⟩
    show (if (60 : Int32) ≤ iI (j : Int) then K (iI (j : Int)) M else if (M.1 1 7) ≤ 0 then K (iI (j : Int)) M else _) = K (iI (j : Int)) M
    rw [h.vk, if_pos (show iI ((0 : Nat) : Int) ≤ 0 by decide), ite_self]
  | k + 1, j, q, P, M, hj, h, hW => by
    obtain ⟨e1, e2, e3⟩ := wf_back1 hW
    obtain ⟨M1, f1, f2, f3⟩ := unmake_I h hW e1 e3
    show ∃ M', (if (60 : Int32) ≤ iI (j : Int) then K (iI (j : Int)) M else if (M.1 1 7) ≤ 0 then K (iI (j : Int)) M else obind2 (F_X1_unmakeSlide M) fun v5 M6 => bnd (iI (j : Int) + (1 : Int32)) fun v9 => F_X3_rewind_L6 K (q + 1 + k) v9 M6) = _ ∧ _
    rw [show (60 : Int32) = iI 60 from rfl, if_le (by omega) (by omega) (by omega) (by omega), if_neg (by omega), h.vk, iL_0, if_le (by omega) (by omega) (by omega) (by omega), if_neg (by omega), f1, ob2_s, s1_I, bnd_v]
    obtain ⟨M2, k1, k2, k3⟩ := crw_loop (K := K) k (j + 1) q _ M1 (by omega) f2 e2
    refine ⟨M2, ?_, k2, f3.tr k3⟩
    rw [k1, show j + 1 + k = j + (k + 1) by omega]
end RW
theorem CI.txt {S : Wst} {M N : Wd} {tl : Nat} {tc : Nat → Nat} (h : CI S M) (hc5 : sC S ≤ 5) (h1 : ∀ c, c < 44 → N.1 c = M.1 c) (h2 : N.2.2 = M.2.2) (hl : N.1 51 1 = iI (tl : Int)) (ht : ∀ i, i < tl → N.1 52 i = iI (tc i : Int)) : CI (sN S, sK S, sF S, sC S, sV S, tl, tc) N := by
  obtain ⟨a1, a2, a3, a4, a5, a6, a7, a8⟩ := h
  refine ⟨a1.cells fun j hj => h1 _ (by omega), by rw [h1 0 (by omega)]; exact a2, fun z => (a3 z).cells fun j hj => h1 _ (by omega), by rw [h1 0 (by omega)]; exact a4, fun i hi => ?_, ?_, hl, ht⟩
  · rw [h2]
    refine (a5 i hi).cells fun j hj => ?_
    have hi' : i < sC S := hi
    have := a6.1 i (by omega)
    exact h1 _ (by unfold isSv at this; omega)
  · unfold plc; rw [h2]; exact a6
theorem sv_sep1 {b : Nat} (hb : isSv b ∨ b = 7) : ∀ i j, i ≤ 5 → j ≤ 5 → b + j ≠ 1 + i := fun i j hi hj => by
  unfold isSv at hb; omega
