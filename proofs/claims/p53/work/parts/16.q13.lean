/-! ===== the model's least fuel: a queue ===== -/
theorem iI_andm (a b : Nat) (ha : a < 2147483648) (hb : b < 2147483648) : iI (a : Int) &&& (iI (b : Int) ^^^ (-1 : Int32)) = iI ((a &&& (b ^^^ 2147483647) : Nat) : Int) := iI_andn a b ha hb
section WQ
variable {w n s : Nat} {L G : Nat → Nat}
def frQ (M M' : Wd) : Prop := (∀ c, c ≠ 59 → c ≠ 60 → c ≠ 61 → c ≠ 53 → M'.1 c = M.1 c) ∧ (∀ j, j ≠ 14 → M'.1 53 j = M.1 53 j) ∧ M'.2 = M.2
theorem frQ.rf (M : Wd) : frQ M M := ⟨fun _ _ _ _ _ => rfl, fun _ _ => rfl, rfl⟩
theorem frQ.tr {M N O : Wd} (h : frQ M N) (h2 : frQ N O) : frQ M O := ⟨fun c a b d e => by rw [h2.1 c a b d e, h.1 c a b d e], fun j hj => by rw [h2.2.1 j hj, h.2.1 j hj], by rw [h2.2.2, h.2.2]⟩
theorem frG.Q {M N : Wd} (h : frG M N) : frQ M N := ⟨fun c a b _ e => h.1 c a b e, h.2.1, h.2.2⟩
def QE (w : Nat) (L G : Nat → Nat) (n : Nat) (M : Wd) (co : Nat → Int) (h t : Nat) (qs : Nat → Nat) (qd : Nat → Bool) : Prop :=
  (∀ a, a < 4096 → M.1 59 a = iI (co a)) ∧ M.1 53 14 = iI (t : Int) ∧ (∀ i, h ≤ i → i < t → M.1 60 (i % 4096) = iI (qs i : Nat)) ∧ (∀ a, a < 4096 → M.1 61 a = if qd a = true then iI 1 else iI 0) ∧
  (∀ a, qd a = true ↔ ∃ i, h ≤ i ∧ i < t ∧ qs i = a) ∧ (∀ i j, h ≤ i → i < j → j < t → qs i ≠ qs j) ∧ (∀ i, h ≤ i → i < t → VV w L G n (qs i) ∧ 0 ≤ co (qs i)) ∧ h ≤ t
def pot (co : Nat → Int) (N : Nat) : Nat := fb_sm (fun a => if co a = -1 then 12288 else (co a).toNat) N
theorem pot_rlx {co : Nat → Int} {N v : Nat} {d : Int} (hv : v < N) (hd0 : 0 ≤ d) (hd : d ≤ 12285) (hl : -1 ≤ co v) (e : co v = -1 ∨ d < co v) : pot (rlx co v d) N + 1 ≤ pot co N := by
  have h1 := fb_sm_upd (fun a => if co a = -1 then 12288 else (co a).toNat) d.toNat hv
  have h2 : pot (rlx co v d) N = fb_sm (fun k => if k = v then d.toNat else if co k = -1 then 12288 else (co k).toNat) N := by
    unfold pot
    refine fb_sm_cong fun k _ => ?_
    by_cases ek : k = v
    · rw [ek, rlx_v e, if_pos rfl, if_neg (by omega)]
    · rw [rlx_ne ek, if_neg ek]
  have h3 : (if co v = -1 then 12288 else (co v).toNat) ≥ d.toNat + 1 := by
    by_cases e2 : co v = -1
    · rw [if_pos e2]; omega
    · rw [if_neg e2]; omega
  rw [h2]
  unfold pot
  omega
theorem QE.room {M : Wd} {co : Nat → Int} {h t : Nat} {qs : Nat → Nat} {qd : Nat → Bool} (hQ : QE w L G n M co h t qs qd) {v : Nat} (hv : v < 4 ^ n) (hq : qd v = false) : t - h + 1 ≤ 4 ^ n := by
  obtain ⟨-, -, -, -, q5, q6, q7, q8⟩ := hQ
  have hnv : ∀ i, h ≤ i → i < t → qs i ≠ v := fun i h1 h2 e => by
    have := (q5 v).mpr ⟨i, h1, h2, e⟩
    rw [hq] at this; cases this
  refine fb_holes (4 ^ n) (t - h + 1) (fun i => if i < t - h then qs (h + i) else v) (fun i hi => ?_) (fun i j hij hj => ?_)
  · by_cases e : i < t - h
    · simp only [if_pos e]; exact (q7 (h + i) (by omega) (by omega)).1.1
    · simp only [if_neg e]; exact hv
  · have e : i < t - h := by omega
    simp only [if_pos e]
    by_cases e2 : j < t - h
    · simp only [if_pos e2]; exact q6 (h + i) (h + j) (by omega) (by omega) (by omega)
    · simp only [if_neg e2]; exact hnv (h + i) (by omega) (by omega)
theorem tmod_I {t : Nat} (ht : t < 2147483648) : iI (t : Int) - iI (t : Int) / (4096 : Int32) * (4096 : Int32) = iI ((t % 4096 : Nat) : Int) := by
  rw [show (4096 : Int32) = iI ((4096 : Nat) : Int) from rfl, iI_div _ _ ht (by decide) (by decide), iI_mul, iI_sub]
  congr 1
  omega
theorem push_I {M : Wd} {co : Nat → Int} {h t : Nat} {qs : Nat → Nat} {qd : Nat → Bool} (hQ : QE w L G n M co h t qs qd) (hn : n ≤ 6) {v : Nat} {d : Int} (hv : VV w L G n v) (hd0 : 0 ≤ d) (hd : d ≤ 12285) (hl : ∀ a, -1 ≤ co a) (e : co v = -1 ∨ d < co v) (ht : t + pot co (4 ^ n) ≤ 50331648) :
    ∃ M' t' qs' qd', (inb 4096 (iI (v : Int)) <| ldi (M.1 61) 4096 (iI (v : Int)) fun v6 => if v6 = 0 then inb 4096 (iI (v : Int)) <| inb 4096 ((M.1 53 14) - (M.1 53 14) / (4096 : Int32) * (4096 : Int32)) <| some (upI (upI (upI (upI M 59 (iI (v : Int)).toNatClampNeg (iI d)) 61 (iI (v : Int)).toNatClampNeg (1 : Int32)) 60 ((M.1 53 14) - (M.1 53 14) / (4096 : Int32) * (4096 : Int32)).toNatClampNeg (iI (v : Int))) 53 14 ((M.1 53 14) + (1 : Int32))) else some (upI M 59 (iI (v : Int)).toNatClampNeg (iI d))) = some M' ∧
      QE w L G n M' (rlx co v d) h t' qs' qd' ∧ t' + pot (rlx co v d) (4 ^ n) ≤ 50331648 ∧ (∀ a, qd a = true → qd' a = true) ∧ qd' v = true ∧ frQ M M' := by
  have hs := pow4_le hn
  have hv1 := hv.1
  have hp := pot_rlx hv.1 hd0 hd (hl v) e
  obtain ⟨q1, q2, q3, q4, q5, q6, q7, q8⟩ := id hQ
  have h59 : ∀ (M' : Wd), M'.1 59 = upd (M.1 59) v (iI d) → ∀ a, a < 4096 → M'.1 59 a = iI (rlx co v d a) := fun M' hM a ha => by
    rw [hM, rlx_y e]
    show upd (M.1 59) v (iI d) a = iI (if a = v then d else co a)
    by_cases ea : a = v
    · rw [if_pos ea]; exact if_pos ea
    · rw [if_neg ea, ← q1 a ha]; exact if_neg ea
  have h7 : ∀ a, VV w L G n a → 0 ≤ co a → VV w L G n a ∧ 0 ≤ rlx co v d a := fun a h1 h2 => ⟨h1, (Less.rlx co v hd0 a h2).1⟩
  rw [inb_N (by omega) (by omega), ldi_N (by omega) (by omega), q4 v (by omega), i10_eq0, iI_clN (by omega)]
  by_cases eq : qd v = true
  · rw [if_pos eq]
    refine ⟨_, t, qs, qd, rfl, ⟨h59 _ upI_row, ?_, fun i h1 h2 => ?_, fun a ha => ?_, q5, q6, fun i h1 h2 => h7 _ (q7 i h1 h2).1 (q7 i h1 h2).2, q8⟩, by omega, fun a h => h, eq, ⟨fun c h1 h2 h3 h4 => upI_row_ne h1, fun j hj => by rw [upI_row_ne (by decide)], rfl⟩⟩
    · rw [upI_row_ne (by decide)]; exact q2
    · rw [upI_row_ne (by decide)]; exact q3 i h1 h2
    · rw [upI_row_ne (by decide)]; exact q4 a ha
  · rw [if_neg eq]
    have hqf : qd v = false := Bool.eq_false_iff.mpr eq
    have hr := hQ.room hv.1 hqf
    rw [inb_N (by omega) (by omega), q2, tmod_I (by omega), inb_N (by omega) (by omega), iI_clN (by omega), iL_1, iI_add]
    refine ⟨_, t + 1, fun i => if i = t then v else qs i, fun a => if a = v then true else qd a, rfl, ⟨h59 _ ?_, ?_, fun i h1 h2 => ?_, fun a ha => ?_, fun a => ?_, fun i j h1 h2 h3 => ?_, fun i h1 h2 => ?_, by omega⟩, by omega, fun a ha => ?_, if_pos rfl, ⟨fun c h1 h2 h3 h4 => ?_, fun j hj => ?_, rfl⟩⟩
    · rw [upI_row_ne (by decide), upI_row_ne (by decide), upI_row_ne (by decide), upI_row]
    · rw [upI_row]; exact if_pos rfl
    · rw [upI_row_ne (by decide), upI_row]
      show upd _ (t % 4096) (iI (v : Int)) (i % 4096) = iI (((if i = t then v else qs i) : Nat) : Int)
      by_cases ei : i = t
      · rw [if_pos ei, ei]; exact if_pos rfl
      · rw [if_neg ei, ← q3 i h1 (by omega), upI_row_ne (by decide), upI_row_ne (by decide)]
        exact if_neg (by omega)
    · rw [upI_row_ne (by decide), upI_row_ne (by decide), upI_row, upI_row_ne (by decide)]
      show upd (M.1 61) v (iI 1) a = if (if a = v then true else qd a) = true then iI 1 else iI 0
      by_cases ea : a = v
      · rw [if_pos ea, if_pos rfl]; exact if_pos ea
      · rw [if_neg ea, ← q4 a ha]; exact if_neg ea
    · show (if a = v then true else qd a) = true ↔ ∃ i, h ≤ i ∧ i < t + 1 ∧ (if i = t then v else qs i) = a
      by_cases ea : a = v
      · rw [if_pos ea]
        exact ⟨fun _ => ⟨t, q8, by omega, by rw [if_pos rfl, ea]⟩, fun _ => rfl⟩
      · rw [if_neg ea, q5 a]
        constructor
        · rintro ⟨i, h1, h2, h3⟩
          exact ⟨i, h1, by omega, by rw [if_neg (by omega)]; exact h3⟩
        · rintro ⟨i, h1, h2, h3⟩
          by_cases ei : i = t
          · rw [if_pos ei] at h3; exact absurd h3.symm ea
          · rw [if_neg ei] at h3; exact ⟨i, h1, by omega, h3⟩
    · show (if i = t then v else qs i) ≠ (if j = t then v else qs j)
      rw [if_neg (show ¬ i = t by omega)]
      by_cases ej : j = t
      · rw [if_pos ej]
        exact fun z => eq ((q5 v).mpr ⟨i, h1, by omega, z⟩)
      · rw [if_neg ej]; exact q6 i j h1 h2 (by omega)
    · show VV w L G n (if i = t then v else qs i) ∧ 0 ≤ rlx co v d (if i = t then v else qs i)
      by_cases ei : i = t
      · rw [if_pos ei]
        exact ⟨hv, (rlx_at hd0 (hl v)).1⟩
      · rw [if_neg ei]
        have := q7 i h1 (by omega)
        exact h7 _ this.1 this.2
    · show (if a = v then true else qd a) = true
      by_cases ea : a = v
      · rw [if_pos ea]
      · rw [if_neg ea]; exact ha
    · rw [upI_row_ne h4, upI_row_ne h2, upI_row_ne h3, upI_row_ne h1]
    · rw [upI_row]
      show upd _ 14 _ j = _
      rw [upI_row_ne (by decide), upI_row_ne (by decide), upI_row_ne (by decide)]
      exact if_neg hj
theorem Rx.hi2 {co0 co : Nat → Int} {u c v : Nat} {f : Bool} {D : Nat → Bool → Prop} (hLG : LGok L G n) (hs : 4 ^ n ≤ 4096) (h : Rx w L G n s co0 u D co) (hu0 : 0 ≤ co0 u) (hc : c < n) (hst : stp w L G n c f u = some v) (e : co v = -1 ∨ co u + (G c : Int) < co v) : co u + (G c : Int) ≤ 12285 := by
  rw [h.2.2.2.1] at e ⊢
  have h2 := (h.step hLG (f := f) hu0 hc).2.1.hi hs v
  have e2 : rlo co (stp w L G n c f u) (co0 u + (G c : Int)) v = co0 u + (G c : Int) := by
    rw [hst]
    exact rlx_v e
  omega
/-- both answers are the same -/
theorem FU.eq {y z : Int} {D : Nat → Int} (h : FU w L G n s y) (hD : IsD w L G n s D) (h2 : LE w L G n D z) : y = z := LE.eq (h D hD) h2
end WQ
