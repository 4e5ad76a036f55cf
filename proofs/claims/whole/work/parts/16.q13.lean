/-! ===== the model's least fuel: a queue ===== -/
theorem iI_andm (a b : Nat) (ha : a < 2147483648) (hb : b < 2147483648) : iI (a : Int) &&& (iI (b : Int) ^^^ (-1 : Int32)) = iI ((a &&& (b ^^^ 2147483647) : Nat) : Int) := iI_andn a b ha hb
section WQ
variable {w n s : Nat} {L G : Nat → Nat}
def frQ (M M' : Wd) : Prop := (∀ c, c ≠ 59 → c ≠ 60 → c ≠ 61 → c ≠ 53 → M'.1 c = M.1 c) ∧ (∀ j, j ≠ 14 → M'.1 53 j = M.1 53 j) ∧ M'.2 = M.2
theorem frQ.rf (M : Wd) : frQ M M := ⟨fun _ _ _ _ _ => rfl, fun _ _ => rfl, rfl⟩
theorem frQ.tr {M N O : Wd} (h : frQ M N) (h2 : frQ N O) : frQ M O := ⟨fun c a b d e => by rw [h2.1 c a b d e, h.1 c a b d e], fun j hj => by rw [h2.2.1 j hj, h.2.1 j hj], by rw [h2.2.2, h.2.2]⟩
theorem frG.Q {M N : Wd} (h : frG M N) : frQ M N := ⟨fun c a b _ e => h.1 c a b e, h.2.1, h.2.2⟩
theorem PM.frq {M M' : Wd} (h : PM w n L G M) (hf : frQ M M') : PM w n L G M' := by
  obtain ⟨h0, h1, h2, h3, h4⟩ := h
  refine ⟨h0, by rw [hf.2.1 9 (by decide)]; exact h1, by rw [hf.2.1 10 (by decide)]; exact h2, fun i hi => by rw [hf.1 55 (by decide) (by decide) (by decide) (by decide)]; exact h3 i hi, fun k q hk hq => by rw [hf.1 58 (by decide) (by decide) (by decide) (by decide)]; exact h4 k q hk hq⟩
def QE (w : Nat) (L G : Nat → Nat) (n : Nat) (M : Wd) (co : Nat → Int) (h t : Nat) (qs : Nat → Nat) (qd : Nat → Bool) : Prop :=
  (∀ a, a < 4096 → M.1 59 a = iI (co a)) ∧ M.1 53 14 = iI (t : Int) ∧ (∀ i, h ≤ i → i < t → M.1 60 (i % 4096) = iI (qs i : Nat)) ∧ (∀ a, a < 4096 → M.1 61 a = if qd a = true then iI 1 else iI 0) ∧
  (∀ a, qd a = true ↔ ∃ i, h ≤ i ∧ i < t ∧ qs i = a) ∧ (∀ i j, h ≤ i → i < j → j < t → qs i ≠ qs j) ∧ (∀ i, h ≤ i → i < t → VV w L G n (qs i) ∧ 0 ≤ co (qs i)) ∧ h ≤ t
def pot (co : Nat → Int) (N : Nat) : Nat := fb_sm (fun a => if co a = -1 then 12288 else (co a).toNat) N
theorem pot_rlx {co : Nat → Int} {N v : Nat} {d : Int} (hv : v < N) (hd0 : 0 ≤ d) (hd : d ≤ 12285) (hl : -1 ≤ co v) (e : co v = -1 ∨ d < co v) : pot (rlx co v d) N + 1 ≤ pot co N := by
  have h1 := fb_sm_upd (fun a => if co a = -1 then 12288 else (co a).toNat) d.toNat hv
  have h2 : pot (rlx co v d) N = fb_sm (fun k => if k = v then d.toNat else if co k = -1 then 12288 else (co k).toNat) N := by
    unfold pot
    refine fb_sm_cong fun k _ => ?_
    by_cases ek : k = v
    · rw [ek, rlx_v e, if_pos rfl, if_neg (by omega)]
    · rw [rlx_ne ek, if_neg ek]
  have h3 : (if co v = -1 then 12288 else (co v).toNat) ≥ d.toNat + 1 := by
    by_cases e2 : co v = -1
    · rw [if_pos e2]; omega
    · rw [if_neg e2]; omega
  rw [h2]
  unfold pot
  omega
theorem QE.room {M : Wd} {co : Nat → Int} {h t : Nat} {qs : Nat → Nat} {qd : Nat → Bool} (hQ : QE w L G n M co h t qs qd) {v : Nat} (hv : v < 4 ^ n) (hq : qd v = false) : t - h + 1 ≤ 4 ^ n := by
  obtain ⟨-, -, -, -, q5, q6, q7, q8⟩ := hQ
  have hnv : ∀ i, h ≤ i → i < t → qs i ≠ v := fun i h1 h2 e => by
    have := (q5 v).mpr ⟨i, h1, h2, e⟩
    rw [hq] at this; cases this
  refine fb_holes (4 ^ n) (t - h + 1) (fun i => if i < t - h then qs (h + i) else v) (fun i hi => ?_) (fun i j hij hj => ?_)
  · by_cases e : i < t - h
    · simp only [if_pos e]; exact (q7 (h + i) (by omega) (by omega)).1.1
    · simp only [if_neg e]; exact hv
  · have e : i < t - h := by omega
    simp only [if_pos e]
    by_cases e2 : j < t - h
    · simp only [if_pos e2]; exact q6 (h + i) (h + j) (by omega) (by omega) (by omega)
    · simp only [if_neg e2]; exact hnv (h + i) (by omega) (by omega)
theorem tmod_I {t : Nat} (ht : t < 2147483648) : iI (t : Int) - iI (t : Int) / (4096 : Int32) * (4096 : Int32) = iI ((t % 4096 : Nat) : Int) := by
  rw [show (4096 : Int32) = iI ((4096 : Nat) : Int) from rfl, iI_div _ _ ht (by decide) (by decide), iI_mul, iI_sub]
  congr 1
  omega
theorem push_I {M : Wd} {co : Nat → Int} {h t : Nat} {qs : Nat → Nat} {qd : Nat → Bool} (hQ : QE w L G n M co h t qs qd) (hn : n ≤ 6) {v : Nat} {d : Int} (hv : VV w L G n v) (hd0 : 0 ≤ d) (hd : d ≤ 12285) (hl : ∀ a, -1 ≤ co a) (e : co v = -1 ∨ d < co v) (ht : t + pot co (4 ^ n) ≤ 50331648) :
    ∃ M' t' qs' qd', (inb 4096 (iI (v : Int)) <| ldi (M.1 61) 4096 (iI (v : Int)) fun v6 => if v6 = 0 then inb 4096 (iI (v : Int)) <| inb 4096 ((M.1 53 14) - (M.1 53 14) / (4096 : Int32) * (4096 : Int32)) <| some (upI (upI (upI (upI M 59 (iI (v : Int)).toNatClampNeg (iI d)) 61 (iI (v : Int)).toNatClampNeg (1 : Int32)) 60 ((M.1 53 14) - (M.1 53 14) / (4096 : Int32) * (4096 : Int32)).toNatClampNeg (iI (v : Int))) 53 14 ((M.1 53 14) + (1 : Int32))) else some (upI M 59 (iI (v : Int)).toNatClampNeg (iI d))) = some M' ∧
      QE w L G n M' (rlx co v d) h t' qs' qd' ∧ t' + pot (rlx co v d) (4 ^ n) ≤ 50331648 ∧ (∀ a, qd a = true → qd' a = true) ∧ qd' v = true ∧ frQ M M' := by
  have hs := pow4_le hn
  have hv1 := hv.1
  have hp := pot_rlx hv.1 hd0 hd (hl v) e
  obtain ⟨q1, q2, q3, q4, q5, q6, q7, q8⟩ := id hQ
  have h59 : ∀ (M' : Wd), M'.1 59 = upd (M.1 59) v (iI d) → ∀ a, a < 4096 → M'.1 59 a = iI (rlx co v d a) := fun M' hM a ha => by
    rw [hM, rlx_y e]
    show upd (M.1 59) v (iI d) a = iI (if a = v then d else co a)
    by_cases ea : a = v
    · rw [if_pos ea]; exact if_pos ea
    · rw [if_neg ea, ← q1 a ha]; exact if_neg ea
  have h7 : ∀ a, VV w L G n a → 0 ≤ co a → VV w L G n a ∧ 0 ≤ rlx co v d a := fun a h1 h2 => ⟨h1, (Less.rlx co v hd0 a h2).1⟩
  rw [inb_N (by omega) (by omega), ldi_N (by omega) (by omega), q4 v (by omega), i10_eq0, iI_clN (by omega)]
  by_cases eq : qd v = true
  · rw [if_pos eq]
    refine ⟨_, t, qs, qd, rfl, ⟨h59 _ upI_row, ?_, fun i h1 h2 => ?_, fun a ha => ?_, q5, q6, fun i h1 h2 => h7 _ (q7 i h1 h2).1 (q7 i h1 h2).2, q8⟩, by omega, fun a h => h, eq, ⟨fun c h1 h2 h3 h4 => upI_row_ne h1, fun j hj => by rw [upI_row_ne (by decide)], rfl⟩⟩
    · rw [upI_row_ne (by decide)]; exact q2
    · rw [upI_row_ne (by decide)]; exact q3 i h1 h2
    · rw [upI_row_ne (by decide)]; exact q4 a ha
  · rw [if_neg eq]
    have hqf : qd v = false := Bool.eq_false_iff.mpr eq
    have hr := hQ.room hv.1 hqf
    rw [inb_N (by omega) (by omega), q2, tmod_I (by omega), inb_N (by omega) (by omega), iI_clN (by omega), iL_1, iI_add]
    refine ⟨_, t + 1, fun i => if i = t then v else qs i, fun a => if a = v then true else qd a, rfl, ⟨h59 _ ?_, ?_, fun i h1 h2 => ?_, fun a ha => ?_, fun a => ?_, fun i j h1 h2 h3 => ?_, fun i h1 h2 => ?_, by omega⟩, by omega, fun a ha => ?_, if_pos rfl, ⟨fun c h1 h2 h3 h4 => ?_, fun j hj => ?_, rfl⟩⟩
    · rw [upI_row_ne (by decide), upI_row_ne (by decide), upI_row_ne (by decide), upI_row]
    · rw [upI_row]; exact if_pos rfl
    · rw [upI_row_ne (by decide), upI_row]
      show upd _ (t % 4096) (iI (v : Int)) (i % 4096) = iI (((if i = t then v else qs i) : Nat) : Int)
      by_cases ei : i = t
      · rw [if_pos ei, ei]; exact if_pos rfl
      · rw [if_neg ei, ← q3 i h1 (by omega), upI_row_ne (by decide), upI_row_ne (by decide)]
        exact if_neg (by omega)
    · rw [upI_row_ne (by decide), upI_row_ne (by decide), upI_row, upI_row_ne (by decide)]
      show upd (M.1 61) v (iI 1) a = if (if a = v then true else qd a) = true then iI 1 else iI 0
      by_cases ea : a = v
      · rw [if_pos ea, if_pos rfl]; exact if_pos ea
      · rw [if_neg ea, ← q4 a ha]; exact if_neg ea
    · show (if a = v then true else qd a) = true ↔ ∃ i, h ≤ i ∧ i < t + 1 ∧ (if i = t then v else qs i) = a
      by_cases ea : a = v
      · rw [if_pos ea]
        exact ⟨fun _ => ⟨t, q8, by omega, by rw [if_pos rfl, ea]⟩, fun _ => rfl⟩
      · rw [if_neg ea, q5 a]
        constructor
        · rintro ⟨i, h1, h2, h3⟩
          exact ⟨i, h1, by omega, by rw [if_neg (by omega)]; exact h3⟩
        · rintro ⟨i, h1, h2, h3⟩
          by_cases ei : i = t
          · rw [if_pos ei] at h3; exact absurd h3.symm ea
          · rw [if_neg ei] at h3; exact ⟨i, h1, by omega, h3⟩
    · show (if i = t then v else qs i) ≠ (if j = t then v else qs j)
      rw [if_neg (show ¬ i = t by omega)]
      by_cases ej : j = t
      · rw [if_pos ej]
        exact fun z => eq ((q5 v).mpr ⟨i, h1, by omega, z⟩)
      · rw [if_neg ej]; exact q6 i j h1 h2 (by omega)
    · show VV w L G n (if i = t then v else qs i) ∧ 0 ≤ rlx co v d (if i = t then v else qs i)
      by_cases ei : i = t
      · rw [if_pos ei]
        exact ⟨hv, (rlx_at hd0 (hl v)).1⟩
      · rw [if_neg ei]
        have := q7 i h1 (by omega)
        exact h7 _ this.1 this.2
    · show (if a = v then true else qd a) = true
      by_cases ea : a = v
      · rw [if_pos ea]
      · rw [if_neg ea]; exact ha
    · rw [upI_row_ne h4, upI_row_ne h2, upI_row_ne h3, upI_row_ne h1]
    · rw [upI_row]
      show upd _ 14 _ j = _
      rw [upI_row_ne (by decide), upI_row_ne (by decide), upI_row_ne (by decide)]
      exact if_neg hj
theorem cheapens_I {M : Wd} {co : Nat → Int} {h t : Nat} {qs : Nat → Nat} {qd : Nat → Bool} (hQ : QE w L G n M co h t qs qd) (hn : n ≤ 6) {v : Nat} {d : Int} (hv : VV w L G n v) (hd0 : 0 ≤ d) (hd : (co v = -1 ∨ d < co v) → d ≤ 12285) (hd9 : d ≤ 100000) (hl : ∀ a, -1 ≤ co a) (hh : ∀ a, co a ≤ 100000) (ht : t + pot co (4 ^ n) ≤ 50331648) :
    ∃ M' t' qs' qd', F_X4_cheapens (iI (v : Int)) (iI d) M = some M' ∧ QE w L G n M' (rlx co v d) h t' qs' qd' ∧ t' + pot (rlx co v d) (4 ^ n) ≤ 50331648 ∧ (∀ a, qd a = true → qd' a = true) ∧ ((co v = -1 ∨ d < co v) → qd' v = true) ∧ frQ M M' := by
  have hs := pow4_le hn
  have hv1 := hv.1
  have hlv := hl v
  have hhv := hh v
  unfold F_X4_cheapens
  rw [ldi_N (a := M.1 59) (by omega) (by omega), ldi_N (a := M.1 59) (by omega) (by omega), hQ.1 v (by omega), iL_m1, if_eq (by omega) (by omega) (by omega) (by omega), if_le (by omega) (by omega) (by omega) (by omega)]
  by_cases e : co v = -1 ∨ d < co v
  · obtain ⟨M', t', qs', qd', k1, k2, k3, k4, k5, k6⟩ := push_I hQ hn hv hd0 (hd e) hl e ht
    refine ⟨M', t', qs', qd', ?_, k2, k3, k4, fun _ => k5, k6⟩
    rw [← k1]
    by_cases e1 : co v = -1
    · rw [if_pos e1]
    · rw [if_neg e1, if_neg (by omega)]
  · rw [if_neg (fun z => e (Or.inl z)), if_pos (by omega), rlx_n e]
    exact ⟨M, t, qs, qd, rfl, hQ, ht, fun a h => h, fun z => absurd z e, frQ.rf M⟩
theorem mcheaper_I {M : Wd} (h : PM w n L G M) {co : Nat → Int} {hd t : Nat} {qs : Nat → Nat} {qd : Nat → Bool} (hQ : QE w L G n M co hd t qs qd) {u c : Nat} {f : Bool} (hu : VV w L G n u) (hu0 : 0 ≤ co u) (hc : c < n) (hl : ∀ a, -1 ≤ co a) (hh : ∀ a, co a ≤ 12285) (hh2 : ∀ v, stp w L G n c f u = some v → (co v = -1 ∨ co u + (G c : Int) < co v) → co u + (G c : Int) ≤ 12285) (ht : t + pot co (4 ^ n) ≤ 50331648) :
    ∃ M' t' qs' qd', F_X4_cheaper (iI (u : Int)) (iI (c : Int)) (iI (sgn f)) M = some M' ∧ QE w L G n M' (rlo co (stp w L G n c f u) (co u + (G c : Int))) hd t' qs' qd' ∧ t' + pot (rlo co (stp w L G n c f u) (co u + (G c : Int))) (4 ^ n) ≤ 50331648 ∧ (∀ a, qd a = true → qd' a = true) ∧ (∀ a, rlo co (stp w L G n c f u) (co u + (G c : Int)) a ≠ co a → qd' a = true) ∧ frQ M M' := by
  have hs := h.sz
  have hn := h.1.1
  have hu1 := hu.1
  have hdg := dg_lt u c
  have ho := okc_ocm h.1.2.1 h.1.2.2 hu.2
  have h5 := okb_in (i := c) hu.2 hc
  have hcm := cm_lt h.1.2.2 hc h5
  have hsg := sgn_b f
  have hG := h.1.2.2 c hc
  have hhu := hh u
  have same : stp w L G n c f u = none → ∃ M' t' qs' qd', some M = some M' ∧ QE w L G n M' (rlo co (stp w L G n c f u) (co u + (G c : Int))) hd t' qs' qd' ∧ t' + pot (rlo co (stp w L G n c f u) (co u + (G c : Int))) (4 ^ n) ≤ 50331648 ∧ (∀ a, qd a = true → qd' a = true) ∧ (∀ a, rlo co (stp w L G n c f u) (co u + (G c : Int)) a ≠ co a → qd' a = true) ∧ frQ M M' := fun e => by
    rw [e]
    exact ⟨M, t, qs, qd, rfl, hQ, ht, fun a h => h, fun a z => absurd rfl z, frQ.rf M⟩
  unfold F_X4_cheaper
  rw [bnd_v, dg_I (by omega) (by omega), setOf_I h hu.1 hu.2, ob_s, mul4_I, ldi_N (by omega) (by omega), mask_cm h hc h5, bnd_v, iI_andm _ _ (by omega) (by omega), bnd_v, iI_add, in_I (b := 0) (c := 3) (by omega) (by omega) rfl rfl, iL_0, i10_eqI]
  by_cases e1 : 0 ≤ (dg u c : Int) + sgn f ∧ (dg u c : Int) + sgn f ≤ 3
  · rw [if_pos e1]
    obtain ⟨p, hp⟩ : ∃ p : Nat, (dg u c : Int) + sgn f = p := ⟨((dg u c : Int) + sgn f).toNat, by omega⟩
    have hp4 : p < 4 := by omega
    have hst := stp_in (w := w) (L := L) (G := G) (n := n) hp4 hp
    have hmv := move_ok h.1.2.1 h.1.2.2 hu.2 hc hp4
    rw [hp, mul4_I, ldi_N (by omega) (by omega), h.2.2.2.2 c p hc hp4]
    by_cases e5 : p + G c ≤ 5
    · have hcm2 := cm_lt h.1.2.2 hc e5
      have hand : cm (L c) p (G c) &&& oth w L G n u c ≤ cm (L c) p (G c) := Nat.and_le_left
      rw [if_pos e5, if_eq (by omega) (by omega) (by omega) (by omega), if_neg (by omega), ldi_N (by omega) (by omega), h.2.2.2.2 c p hc hp4, if_pos e5]
      show ∃ M' t' qs' qd', (if (iI (cm (L c) p (G c) : Nat) &&& iI (oth w L G n u c : Nat)) = iI 0 then _ else some M) = some M' ∧ _
      rw [iI_and, if_eq (by omega) (by omega) (by omega) (by omega)]
      by_cases e6 : cm (L c) p (G c) &&& oth w L G n u c = 0
      · have hok : okc w L G n (setd u c p) = true := hmv.mpr ⟨e5, e6⟩
        have hv : VV w L G n (setd u c p) := ⟨setd_lt n c u p hu.1 hc hp4, hok⟩
        have hst2 : stp w L G n c f u = some (setd u c p) := by rw [hst, if_pos hok]
        have h13 : (13 : Int32) + iI (c : Int) = iI ((13 + c : Nat) : Int) := by
          rw [show (13 : Int32) = iI 13 from rfl, iI_add]; rfl
        obtain ⟨M', t', qs', qd', k1, k2, k3, k4, k5, k6⟩ := cheapens_I hQ hn hv (d := co u + (G c : Int)) (by omega) (hh2 _ hst2) (by omega) hl (fun a => by have := hh a; omega) ht
        rw [if_pos (by omega), ldi_N (by omega) (by omega), hQ.1 u (by omega), h13, ldi_N (by omega) (by omega), h.2.2.2.1 c hc, clr_I (by omega) (by omega) hp4, iI_add, k1, ob_s, hst2]
        refine ⟨M', t', qs', qd', rfl, k2, k3, k4, fun a ha => ?_, k6⟩
        have ha' : rlx co (setd u c p) (co u + (G c : Int)) a ≠ co a := ha
        by_cases ea : a = setd u c p
        · subst ea
          refine k5 (Classical.byContradiction fun z => ha' ?_)
          rw [rlx_n z]
        · exact absurd (rlx_ne ea) ha'
      · rw [if_neg (by omega)]
        exact same (by rw [hst, if_neg (fun z => e6 (hmv.mp z).2)])
    · rw [if_neg e5, if_pos (show iI ((0 : Nat) : Int) = iI 0 from rfl)]
      exact same (by rw [hst, if_neg (fun z => e5 (hmv.mp z).1)])
  · rw [if_neg e1]
    exact same (stp_out e1)
theorem Rx.hi2 {co0 co : Nat → Int} {u c v : Nat} {f : Bool} {D : Nat → Bool → Prop} (hLG : LGok L G n) (hs : 4 ^ n ≤ 4096) (h : Rx w L G n s co0 u D co) (hu0 : 0 ≤ co0 u) (hc : c < n) (hst : stp w L G n c f u = some v) (e : co v = -1 ∨ co u + (G c : Int) < co v) : co u + (G c : Int) ≤ 12285 := by
  rw [h.2.2.2.1] at e ⊢
  have h2 := (h.step hLG (f := f) hu0 hc).2.1.hi hs v
  have e2 : rlo co (stp w L G n c f u) (co0 u + (G c : Int)) v = co0 u + (G c : Int) := by
    rw [hst]
    exact rlx_v e
  omega
theorem mcars_loop {co0 : Nat → Int} {u hd : Nat} {x0 : Int32} (hu : VV w L G n u) (hu0 : 0 ≤ co0 u) {ρ : Type} {K : Wd → Option ρ} : ∀ (r c q : Nat) (M : Wd) (co : Nat → Int) (t : Nat) (qs : Nat → Nat) (qd : Nat → Bool), c + r = n → PM w n L G M → QE w L G n M co hd t qs qd → Rx w L G n s co0 u (fun c' _ => c' < c) co → t + pot co (4 ^ n) ≤ 50331648 → (∀ a, co a ≠ co0 a → qd a = true) →
    ∃ M' co' t' qs' qd', F_X4_cheapest_L91 x0 (iI (u : Int)) K (q + 1 + r) (iI (c : Int)) M = K M' ∧ QE w L G n M' co' hd t' qs' qd' ∧ Rx w L G n s co0 u (fun c' _ => c' < n) co' ∧ t' + pot co' (4 ^ n) ≤ 50331648 ∧ (∀ a, co' a ≠ co0 a → qd' a = true) ∧ (∀ a, qd a = true → qd' a = true) ∧ frQ M M'
  | 0, c, q, M, co, t, qs, qd, hr, h, hQ, hR, ht, hch => by
    have hn := h.1.1
    refine ⟨M, co, t, qs, qd, ?_, hQ, by rw [show c = n by omega] at hR; exact hR, ht, hch, fun a h => h, frQ.rf M⟩
    show (if (M.1 53 9) ≤ iI (c : Int) then K M else _) = K M
    rw [h.2.1, if_le (by omega) (by omega) (by omega) (by omega), if_pos (by omega)]
  | r + 1, c, q, M, co, t, qs, qd, hr, h, hQ, hR, ht, hch => by
    have hn := h.1.1
    have hs := h.sz
    have hcn : c < n := by omega
    have eu := hR.2.2.2.1
    show ∃ M' co' t' qs' qd', (if (M.1 53 9) ≤ iI (c : Int) then K M else obind (F_X4_cheaper (iI (u : Int)) (iI (c : Int)) (iI (sgn false)) M) fun M22 => obind (F_X4_cheaper (iI (u : Int)) (iI (c : Int)) (iI (sgn true)) M22) fun M24 => bnd (iI (c : Int) + (1 : Int32)) fun v26 => F_X4_cheapest_L91 x0 (iI (u : Int)) K (q + 1 + r) v26 M24) = K M' ∧ _
    rw [h.2.1, if_le (by omega) (by omega) (by omega) (by omega), if_neg (by omega)]
    obtain ⟨M1, t1, qs1, qd1, f1, f2, f3, f4, f5, f6⟩ := mcheaper_I h hQ (f := false) hu (by omega) hcn hR.1.1 (hR.2.1.hi hs) (fun v hv e => hR.hi2 h.1.2.2 hs hu0 hcn hv e) ht
    have h1 := h.frq f6
    have hR1 := hR.step h.1.2.2 (f := false) hu0 hcn
    rw [eu] at f2 f3 f5
    have eu1 := hR1.2.2.2.1
    obtain ⟨M2, t2, qs2, qd2, g1, g2, g3, g4, g5, g6⟩ := mcheaper_I h1 f2 (f := true) hu (by omega) hcn hR1.1.1 (hR1.2.1.hi hs) (fun v hv e => hR1.hi2 h.1.2.2 hs hu0 hcn hv e) f3
    have h2 := h1.frq g6
    have hR2 := hR1.step h.1.2.2 (f := true) hu0 hcn
    rw [eu1] at g2 g3 g5
    rw [f1, ob_s, g1, ob_s, bnd_v, iL_1, iI_add]
    obtain ⟨M3, co3, t3, qs3, qd3, k1, k2, k3, k4, k5, k6, k7⟩ := mcars_loop (x0 := x0) hu hu0 (K := K) r (c + 1) q M2 _ t2 qs2 qd2 (by omega) h2 g2 (hR2.weak (fun c' f' hc' => by
      by_cases e : c' = c
      · cases f' with
        | true => exact Or.inr ⟨e, rfl⟩
        | false => exact Or.inl (Or.inr ⟨e, rfl⟩)
      · exact Or.inl (Or.inl (by omega)))) g3 (fun a ha => by
      by_cases e2 : rlo (rlo co (stp w L G n c false u) (co0 u + (G c : Int))) (stp w L G n c true u) (co0 u + (G c : Int)) a = rlo co (stp w L G n c false u) (co0 u + (G c : Int)) a
      · by_cases e3 : rlo co (stp w L G n c false u) (co0 u + (G c : Int)) a = co a
        · exact g4 a (f4 a (hch a (by rw [← e3, ← e2]; exact ha)))
        · exact g4 a (f5 a e3)
      · exact g5 a e2)
    exact ⟨M3, co3, t3, qs3, qd3, k1, k2, k3, k4, k5, fun a ha => k6 a (g4 a (f4 a ha)), (f6.tr g6).tr k7⟩
theorem queue_loop {ρ : Type} {K : Wd → Option ρ} : ∀ (r hd q : Nat) (M : Wd) (co : Nat → Int) (t : Nat) (qs : Nat → Nat) (qd : Nat → Bool), hd + r = 50331648 → PM w n L G M → QE w L G n M co hd t qs qd → W1 w L G n s co → BD (4 ^ n) co → t + pot co (4 ^ n) ≤ 50331648 → (∀ u, 0 ≤ co u → qd u = false → ∀ v g, Edg w L G n u v g → 0 ≤ co v ∧ co v ≤ co u + g) →
    ∃ M' co', F_X4_cheapest_L63 K (q + 1 + r) (iI (hd : Int)) M = K M' ∧ (∀ a, a < 4096 → M'.1 59 a = iI (co' a)) ∧ IsD w L G n s co' ∧ BD (4 ^ n) co' ∧ frQ M M'
  | 0, hd, q, M, co, t, qs, qd, hr, h, hQ, h1, h2, ht, hW => by
    have q8 := hQ.2.2.2.2.2.2.2
    refine ⟨M, co, ?_, hQ.1, ⟨h1, fun u v g he hu => hW u hu (Bool.eq_false_iff.mpr fun z => ?_) v g he⟩, h2, frQ.rf M⟩
    · show (if (M.1 53 14) ≤ iI (hd : Int) then K M else _) = K M
      rw [hQ.2.1, if_le (by omega) (by omega) (by omega) (by omega), if_pos (by omega)]
    · obtain ⟨i, i1, i2, -⟩ := (hQ.2.2.2.2.1 u).mp z
      omega
  | r + 1, hd, q, M, co, t, qs, qd, hr, h, hQ, h1, h2, ht, hW => by
    have q8 := hQ.2.2.2.2.2.2.2
    have hs := h.sz
    have hn := h.1.1
    show ∃ M' co', (if (M.1 53 14) ≤ iI (hd : Int) then K M else ldi (M.1 60) 4096 (iI (hd : Int) - iI (hd : Int) / (4096 : Int32) * (4096 : Int32)) fun v17 => inb 4096 v17 <| F_X4_cheapest_L91 (iI (hd : Int)) v17 (fun M28 => bnd (iI (hd : Int) + (1 : Int32)) fun v29 => F_X4_cheapest_L63 K (q + 1 + r) v29 M28) fuelN (0 : Int32) (upI M 61 v17.toNatClampNeg (0 : Int32))) = K M' ∧ _
    rw [hQ.2.1, if_le (by omega) (by omega) (by omega) (by omega)]
    by_cases e : t ≤ hd
    · rw [if_pos (by omega)]
      refine ⟨M, co, rfl, hQ.1, ⟨h1, fun u v g he hu => hW u hu (Bool.eq_false_iff.mpr fun z => ?_) v g he⟩, h2, frQ.rf M⟩
      obtain ⟨i, i1, i2, -⟩ := (hQ.2.2.2.2.1 u).mp z
      omega
    · rw [if_neg (by omega), tmod_I (by omega), ldi_N (by omega) (by omega), hQ.2.2.1 hd (Nat.le_refl _) (by omega)]
      obtain ⟨q1, q2, q3, q4, q5, q6, q7, -⟩ := hQ
      obtain ⟨hv, hu0⟩ := q7 hd (Nat.le_refl _) (by omega)
      have hv1 := hv.1
      generalize eu : qs hd = u at hv hu0 hv1
      obtain ⟨p, hp⟩ := fuelS n (by omega)
      rw [inb_N (by omega) (by omega), iI_clN (by omega), hp, iL_0, show iI 0 = iI ((0 : Nat) : Int) from rfl]
      have hQ1 : QE w L G n (upI M 61 u (iI ((0 : Nat) : Int))) co (hd + 1) t qs (fun a => if a = u then false else qd a) := by
        refine ⟨fun a ha => by rw [upI_row_ne (by decide)]; exact q1 a ha, by rw [upI_row_ne (by decide)]; exact q2, fun i i1 i2 => by rw [upI_row_ne (by decide)]; exact q3 i (by omega) i2, fun a ha => ?_, fun a => ?_, fun i j i1 i2 i3 => q6 i j (by omega) i2 i3, fun i i1 i2 => q7 i (by omega) i2, by omega⟩
        · rw [upI_row]
          show upd (M.1 61) u (iI ((0 : Nat) : Int)) a = if (if a = u then false else qd a) = true then iI 1 else iI 0
          by_cases ea : a = u
          · rw [if_pos ea, if_neg (by decide)]; exact if_pos ea
          · rw [if_neg ea, ← q4 a ha]; exact if_neg ea
        · show (if a = u then false else qd a) = true ↔ _
          by_cases ea : a = u
          · rw [if_pos ea]
            constructor
            · intro z; cases z
            · rintro ⟨i, i1, i2, i3⟩
              exact absurd (eu.trans (ea.symm.trans i3.symm)) (q6 hd i (Nat.le_refl _) (by omega) i2)
          · rw [if_neg ea, q5 a]
            constructor
            · rintro ⟨i, i1, i2, i3⟩
              refine ⟨i, ?_, i2, i3⟩
              have : i ≠ hd := fun z => ea (by rw [← i3, z, eu])
              omega
            · rintro ⟨i, i1, i2, i3⟩
              exact ⟨i, by omega, i2, i3⟩
      have hf1 : frQ M (upI M 61 u (iI ((0 : Nat) : Int))) := ⟨fun c c1 c2 c3 c4 => upI_row_ne c3, fun j hj => by rw [upI_row_ne (by decide)], rfl⟩
      obtain ⟨M1, co1, t1, qs1, qd1, f1, f2, f3, f4, f5, f6, f7⟩ := mcars_loop (s := s) (x0 := iI (hd : Int)) hv hu0 (K := fun M28 => bnd (iI (hd : Int) + (1 : Int32)) fun v29 => F_X4_cheapest_L63 K (q + 1 + r) v29 M28) n 0 p _ co t qs _ (by omega) (h.frq hf1) hQ1 (Rx.begin h1 h2 (fun c f z => by omega)) ht (fun a z => absurd rfl z)
      rw [f1, bnd_v, iL_1, iI_add]
      obtain ⟨M2, co2, k1, k2, k3, k4, k5⟩ := queue_loop (K := K) r (hd + 1) q M1 co1 t1 qs1 qd1 (by omega) ((h.frq hf1).frq f7) f2 f3.1 f3.2.1 f4 (fun a ha hqa v g he => by
        have ec : co1 a = co a := Classical.byContradiction fun z => by
          have := f5 a z
          rw [hqa] at this; cases this
        by_cases ea : a = u
        · subst ea
          have := f3.all (fun c f hc => hc) he
          omega
        · have hq0 : qd a = false := Bool.eq_false_iff.mpr fun z => by
            have := f6 a (by rw [if_neg ea]; exact z)
            rw [hqa] at this; cases this
          have z1 := hW a (by omega) hq0 v g he
          have z2 := f3.2.2.1 v z1.1
          omega)
      exact ⟨M2, co2, k1, k2, k3, k4, (hf1.tr f7).tr k5⟩
theorem qd0_loop {ρ : Type} {K : Wd → Option ρ} : ∀ (r q i : Nat) (M : Wd), i + r = 4096 → (∀ a, a < i → M.1 61 a = iI 0) →
    ∃ M', F_X4_cheapest_L32 K (q + 1 + r) (iI (i : Int)) M = K M' ∧ (∀ a, a < 4096 → M'.1 61 a = iI 0) ∧ (∀ c, c ≠ 61 → M'.1 c = M.1 c) ∧ frQ M M'
  | 0, q, i, M, hr, hF => by
    refine ⟨M, ?_, fun a ha => hF a (by omega), fun _ _ => rfl, frQ.rf M⟩
    show (if (4096 : Int32) ≤ iI (i : Int) then K M else _) = K M
    rw [show (4096 : Int32) = iI 4096 from rfl, if_le (by omega) (by omega) (by omega) (by omega), if_pos (by omega)]
  | r + 1, q, i, M, hr, hF => by
    show ∃ M', (if (4096 : Int32) ≤ iI (i : Int) then K M else inb 4096 (iI (i : Int)) <| bnd (iI (i : Int) + (1 : Int32)) fun v8 => F_X4_cheapest_L32 K (q + 1 + r) v8 (upI M 61 (iI (i : Int)).toNatClampNeg (0 : Int32))) = K M' ∧ _
    rw [show (4096 : Int32) = iI 4096 from rfl, if_le (by omega) (by omega) (by omega) (by omega), if_neg (by omega), inb_N (by omega) (by omega), bnd_v, iI_clN (by omega), iL_1, iI_add]
    have hf : frQ M (upI M 61 i (0 : Int32)) := ⟨fun c h1 h2 h3 h4 => upI_row_ne h3, fun j hj => by rw [upI_row_ne (by decide)], rfl⟩
    obtain ⟨M1, k1, k2, k3, k4⟩ := qd0_loop (K := K) r q (i + 1) (upI M 61 i (0 : Int32)) (by omega) (fun a ha => by
      rw [upI_row]
      show upd (M.1 61) i (0 : Int32) a = iI 0
      by_cases e : a = i
      · exact if_pos e
      · rw [← hF a (by omega)]; exact if_neg e)
    exact ⟨M1, k1, k2, fun c hc => by rw [k3 c hc, upI_row_ne hc], hf.tr k4⟩
/-- the queue's work, from the prepared table on -/
theorem queue_I {M : Wd} (h : PM w n L G M) (hv : VV w L G n s) {cnow : Wd → Option Int32} (hcn : ∀ M', frQ M M' → cnow M' = some (iI (s : Int))) :
    ∃ M' y D, (obind (F_X4_forgets M) fun M4 => F_X4_cheapest_L32 (fun M10 => obind (cnow M10) fun v11 => obind (F_X4_cheapens v11 (0 : Int32) M10) fun M14 => F_X4_cheapest_L63 (fun M31 => obind (F_X4_leastEnd M31) fun v32 => some (v32, M31)) fuelN (0 : Int32) M14) fuelN (0 : Int32) M4) = some (iI y, M') ∧ IsD w L G n s D ∧ LE w L G n D y ∧ frQ M M' := by
  have hs := h.sz
  have hn := h.1.1
  obtain ⟨M1, f1, f2, f3⟩ := forgets_I M
  rw [f1, ob_s]
  obtain ⟨M2, g1, g2, g3, g4⟩ := qd0_loop (K := fun M10 => obind (cnow M10) fun v11 => obind (F_X4_cheapens v11 (0 : Int32) M10) fun M14 => F_X4_cheapest_L63 (fun M31 => obind (F_X4_leastEnd M31) fun v32 => some (v32, M31)) fuelN (0 : Int32) M14) 4096 999999995903 0 M1 (by omega) (fun j hj => by omega)
  have hfr := f3.Q.tr g4
  have h2 := h.frq hfr
  have hQ : QE w L G n M2 (fun _ => -1) 0 0 (fun _ => 0) (fun _ => false) := ⟨fun a ha => by rw [g3 59 (by decide)]; exact f2.1 a ha, by rw [g3 53 (by decide)]; exact f2.2.2, fun i _ hi => by omega, fun a ha => g2 a ha, fun a => ⟨fun z => (by cases z), fun ⟨i, _, hi, _⟩ => by omega⟩, fun i j _ _ hj => by omega, fun i _ hi => by omega, Nat.le_refl _⟩
  have hpot : pot (fun _ => -1) (4 ^ n) ≤ 50331648 := by
    have e : pot (fun _ => -1) (4 ^ n) = 4 ^ n * 12288 := by
      unfold pot
      exact (fb_sm_cong fun k _ => if_pos rfl).trans (fb_sm_const 12288 (4 ^ n))
    rw [e]; omega
  obtain ⟨M3, t3, qs3, qd3, k1, k2, k3, k4, k5, k6⟩ := cheapens_I hQ hn (d := 0) hv (by omega) (fun _ => by omega) (by omega) (fun a => Int.le_refl _) (fun a => by decide) (by omega)
  have ek : rlx (fun _ => -1) s 0 = co0 s := rlx_y (Or.inl rfl)
  rw [ek] at k2 k3
  obtain ⟨p, hp⟩ := fuelS 50331648 (by decide)
  obtain ⟨M4, co4, l1, l2, l3, l4, l5⟩ := queue_loop (s := s) (K := fun M31 => obind (F_X4_leastEnd M31) fun v32 => some (v32, M31)) 50331648 0 p M3 (co0 s) t3 qs3 qd3 (by omega) (h2.frq k6) k2 (W1_0 hv) (BD_0 hv.1) k3 (fun u hu hq v g he => by
    have eu : u = s := Classical.byContradiction fun z => by
      have e0 : co0 s u = -1 := if_neg z
      omega
    rw [eu, k5 (Or.inl rfl)] at hq; cases hq)
  obtain ⟨y, m1, m2⟩ := leastM_I ((h2.frq k6).frq l5) l2 l3.1.1 (fun a => by have := l4.hi hs a; omega)
  refine ⟨M4, y, co4, ?_, l3, m2, (hfr.tr k6).tr l5⟩
  refine Eq.trans g1 ?_
  show obind (cnow M2) (fun v11 => obind (F_X4_cheapens v11 (0 : Int32) M2) fun M14 => F_X4_cheapest_L63 (fun M31 => obind (F_X4_leastEnd M31) fun v32 => some (v32, M31)) fuelN (0 : Int32) M14) = _
  rw [hcn M2 hfr, ob_s]
  refine Eq.trans (congrArg (fun z => obind z _) k1) ?_
  show F_X4_cheapest_L63 (fun M31 => obind (F_X4_leastEnd M31) fun v32 => some (v32, M31)) fuelN (0 : Int32) M3 = _
  rw [hp]
  refine Eq.trans l1 ?_
  rw [m1, ob_s]
/-- both answers are the same -/
theorem FU.eq {y z : Int} {D : Nat → Int} (h : FU w L G n s y) (hD : IsD w L G n s D) (h2 : LE w L G n D z) : y = z := LE.eq (h D hD) h2
end WQ
