/-! ===== what the searches answer, in numbers that both sides share ===== -/
noncomputable def epz (p : Int → Prop) : Int := Classical.epsilon p
theorem epz_eq {p : Int → Prop} {y : Int} (h : p y) (hu : ∀ a b, p a → p b → a = b) : epz p = y := hu _ _ (Classical.epsilon_spec ⟨y, h⟩) h
theorem BF.cong {V Src : Nat → Prop} {nb nb' : Nat → List Nat} {S : SS} (h : BF V Src nb S) (hnb : ∀ u v, v ∈ nb u ↔ v ∈ nb' u) : BF V Src nb' S := by
  obtain ⟨d, h1, h2, h3, h4, h5, h6, h7, h8⟩ := h
  refine ⟨d, h1, h2, h3, h4, fun j hj v hv => h5 j hj v ((hnb _ _).mpr hv), fun a ha hp => ?_, h7, h8⟩
  obtain ⟨u, u1, u2, u3⟩ := h6 a ha hp
  exact ⟨u, u1, (hnb _ _).mp u2, u3⟩
section AN
variable {w n s : Nat} {L G : Nat → Nat}
def SrS (w : Nat) (L G : Nat → Nat) (n m s : Nat) (S : SS) : Prop := BF (VV w L G n) (fun a => a = s) (nbC w L G n m) S
def SrE (w : Nat) (L G : Nat → Nat) (n : Nat) (S : SS) : Prop := BF (VV w L G n) (fun a => a < 4 ^ n ∧ isE G n a = true ∧ okc w L G n a = true) (nbC w L G n 3) S
noncomputable def Aleast (w : Nat) (L G : Nat → Nat) (n m s : Nat) : Int := epz fun r => ∃ S, SrS w L G n m s S ∧ LE w L G n S.1 r
noncomputable def Aend (w : Nat) (L G : Nat → Nat) (n s : Nat) : Int := epz fun r => ∃ S, SrE w L G n S ∧ S.1 s = r
noncomputable def Acnt (w : Nat) (L G : Nat → Nat) (n s : Nat) : Int := epz fun r => ∃ S, SrS w L G n 3 s S ∧ (S.2.length : Int) = r
noncomputable def Aout (w : Nat) (L G : Nat → Nat) (n s : Nat) : Int := epz fun r => ∃ S, SrS w L G n 3 s S ∧ ((S.2.countP (isE G n) : Nat) : Int) = r
noncomputable def Afar (w : Nat) (L G : Nat → Nat) (n s : Nat) : Int := epz fun r => ∃ S, SrS w L G n 3 s S ∧ (∃ a ∈ S.2, S.1 a = r) ∧ ∀ a ∈ S.2, S.1 a ≤ r
noncomputable def Afuel (w : Nat) (L G : Nat → Nat) (n s : Nat) : Int := epz fun r => ∃ D, IsD w L G n s D ∧ LE w L G n D r
def Aall (w : Nat) (L G : Nat → Nat) (n : Nat) : Nat := fb_ct (okc w L G n) (4 ^ n)
theorem SrS.eq {m : Nat} {S T : SS} (h : SrS w L G n m s S) (h2 : SrS w L G n m s T) : S.1 = T.1 ∧ S.2.Perm T.2 := BF.eq h h2 (fun _ _ => Iff.rfl)
theorem SrE.eq {S T : SS} (h : SrE w L G n S) (h2 : SrE w L G n T) : S.1 = T.1 ∧ S.2.Perm T.2 := BF.eq h h2 (fun _ _ => Iff.rfl)
theorem Aleast_eq {m : Nat} {S : SS} {y : Int} (h : SrS w L G n m s S) (hy : LE w L G n S.1 y) : Aleast w L G n m s = y := epz_eq ⟨S, h, hy⟩ (fun a b ⟨S1, a1, a2⟩ ⟨S2, b1, b2⟩ => by
  rw [(a1.eq b1).1] at a2
  exact a2.eq b2)
theorem Aend_eq {S : SS} (h : SrE w L G n S) : Aend w L G n s = S.1 s := epz_eq ⟨S, h, rfl⟩ (fun a b ⟨S1, a1, a2⟩ ⟨S2, b1, b2⟩ => by rw [← a2, ← b2, (a1.eq b1).1])
theorem Acnt_eq {S : SS} (h : SrS w L G n 3 s S) : Acnt w L G n s = (S.2.length : Int) := epz_eq ⟨S, h, rfl⟩ (fun a b ⟨S1, a1, a2⟩ ⟨S2, b1, b2⟩ => by rw [← a2, ← b2, (a1.eq b1).2.length_eq])
theorem Aout_eq {S : SS} (h : SrS w L G n 3 s S) : Aout w L G n s = ((S.2.countP (isE G n) : Nat) : Int) := epz_eq ⟨S, h, rfl⟩ (fun a b ⟨S1, a1, a2⟩ ⟨S2, b1, b2⟩ => by rw [← a2, ← b2, (a1.eq b1).2.countP_eq])
theorem Afar_eq {S : SS} {y : Int} (h : SrS w L G n 3 s S) (h1 : ∃ a ∈ S.2, S.1 a = y) (h2 : ∀ a ∈ S.2, S.1 a ≤ y) : Afar w L G n s = y := epz_eq ⟨S, h, h1, h2⟩ (fun a b ⟨S1, a1, a2, a3⟩ ⟨S2, b1, b2, b3⟩ => by
  obtain ⟨e1, e2⟩ := a1.eq b1
  obtain ⟨x, x1, x2⟩ := a2
  obtain ⟨y, y1, y2⟩ := b2
  have q1 := b3 x (e2.mem_iff.mp x1)
  have q2 := a3 y (e2.mem_iff.mpr y1)
  rw [e1] at q2 x2
  omega)
theorem Afuel_eq (hLG : LGok L G n) {y : Int} {D : Nat → Int} (hD : IsD w L G n s D) (h : LE w L G n D y) : Afuel w L G n s = y := epz_eq ⟨D, hD, h⟩ (fun a b ⟨D1, a1, a2⟩ ⟨D2, b1, b2⟩ => by
  rw [IsD.eq hLG a1 b1] at a2
  exact a2.eq b2)
/-- a world that holds the model's table alone -/
def Wm (w n : Nat) (L G : Nat → Nat) : Wd := (fun c k => if c = 53 then (if k = 9 then iI (n : Int) else iI (w : Int)) else if c = 55 then iI ((G (k - 13) : Nat) : Int) else if c = 58 then iI (((if k % 4 + G (k / 4) ≤ 5 then cm (L (k / 4)) (k % 4) (G (k / 4)) else 0) : Nat) : Int) else 0, fun _ _ => 0, fun _ => 0)
/-! the class -/
theorem cb_le {V : Nat → Prop} {S : SS} (h : CB S) (hS : SB V S) (hV : ∀ b, V b → b < 4 ^ n) (hn : n ≤ 6) (a : Nat) : S.1 a ≤ 100000 := by
  have := h.hi hS hV a
  have := pow4_le hn
  omega
theorem sfs_I {M : Wd} {m : Nat} (hm : m < 1000) (h : EL w n L G M) (hst : M.1 44 8 = iI (s : Int)) (hv : VV w L G n s) :
    ∃ M' S, F_X0_spreadFromStart (iI (m : Int)) M = some M' ∧ SE n M' S ∧ CB S ∧ SrS w L G n m s S ∧ EL w n L G M' ∧ M'.1 44 8 = iI (s : Int) ∧ frX M M' := by
  obtain ⟨M', S, h1, h2, h3, h4, h5⟩ := fromStart_I hm h hst hv
  exact ⟨M', S, h1, h2, h3, h4, h.fr h5, by rw [h5.2.1 8 (by decide)]; exact hst, h5.X⟩
theorem leastS_I {M : Wd} {m : Nat} {S : SS} (h : EL w n L G M) (h2 : SE n M S) (h3 : CB S) (h4 : SrS w L G n m s S) : F_X0_leastCostOut M = some (iI (Aleast w L G n m s)) := by
  obtain ⟨d, hI⟩ := id h4
  obtain ⟨y, l1, l2⟩ := leastC_I h (co := S.1) h2.1 (fun a ha => (hI.1.2.1 a (hI.1.mem.mpr (by omega))).1) (fun a => hI.1.lo a) (fun a => cb_le h3 hI.1 (fun b hb => hb.1) h.1.1 a)
  rw [l1, Aleast_eq h4 l2]
theorem cslides_I {M : Wd} (h : EL w n L G M) (hst : M.1 44 8 = iI (s : Int)) (hv : VV w L G n s) :
    ∃ M', F_X0_slidesFromStart M = some (iI (Aleast w L G n 3 s), M') ∧ EL w n L G M' ∧ M'.1 44 8 = iI (s : Int) ∧ frX M M' := by
  unfold F_X0_slidesFromStart
  obtain ⟨M', S, h1, h2, h3, h4, h5, h6, h7⟩ := sfs_I (m := 3) (by decide) h hst hv
  rw [show (3 : Int32) = iI ((3 : Nat) : Int) from rfl, h1, ob_s, leastS_I h5 h2 h3 h4, ob_s]
  exact ⟨M', rfl, h5, h6, h7⟩
theorem csteps_I {M : Wd} (h : EL w n L G M) (hst : M.1 44 8 = iI (s : Int)) (hv : VV w L G n s) :
    ∃ M', F_X0_stepsFromStart M = some (iI (Aleast w L G n 1 s), M') ∧ EL w n L G M' ∧ M'.1 44 8 = iI (s : Int) ∧ frX M M' := by
  unfold F_X0_stepsFromStart
  obtain ⟨M', S, h1, h2, h3, h4, h5, h6, h7⟩ := sfs_I (m := 1) (by decide) h hst hv
  rw [show (1 : Int32) = iI ((1 : Nat) : Int) from rfl, h1, ob_s, leastS_I h5 h2 h3 h4, ob_s]
  exact ⟨M', rfl, h5, h6, h7⟩
theorem cends_I {M : Wd} (h : EL w n L G M) (hst : M.1 44 8 = iI (s : Int)) (hv : VV w L G n s) :
    ∃ M' S, F_X0_slidesFromEnds M = some (iI (Aend w L G n s), M') ∧ SE n M' S ∧ CB S ∧ SrE w L G n S ∧ EL w n L G M' ∧ M'.1 44 8 = iI (s : Int) ∧ frX M M' := by
  obtain ⟨M', S, h1, h2, h3, h4, h5⟩ := fromEnds_I h hst hv
  exact ⟨M', S, by rw [Aend_eq h4]; exact h1, h2, h3, h4, h.fr h5, by rw [h5.2.1 8 (by decide)]; exact hst, h5.X⟩
theorem cbuck_I {M : Wd} (h : EL w n L G M) (hst : M.1 44 8 = iI (s : Int)) (hv : VV w L G n s) :
    ∃ M', F_X0_fuelByBuckets M = some (iI (Afuel w L G n s), M') ∧ EL w n L G M' ∧ M'.1 44 8 = iI (s : Int) ∧ frX M M' := by
  obtain ⟨M', y, h1, h2, h3⟩ := buckets_I h hst hv
  obtain ⟨D, hD⟩ := D_ex h.1.1 h.1.2.1 h.1.2.2 hv
  exact ⟨M', by rw [Afuel_eq h.1.2.2 hD (h2 D hD)]; exact h1, h.frk h3, by rw [h3.2.1 8 (by decide)]; exact hst, h3.X⟩
theorem crnd_I {M : Wd} (h : EL w n L G M) (hst : M.1 44 8 = iI (s : Int)) (hv : VV w L G n s) :
    ∃ M', F_X0_fuelByRounds M = some (iI (Afuel w L G n s), M') ∧ EL w n L G M' ∧ M'.1 44 8 = iI (s : Int) ∧ frX M M' := by
  obtain ⟨M', y, h1, h2, h3⟩ := rounds_I h hst hv
  obtain ⟨D, hD⟩ := D_ex h.1.1 h.1.2.1 h.1.2.2 hv
  exact ⟨M', by rw [Afuel_eq h.1.2.2 hD (h2 D hD)]; exact h1, h.fr h3, by rw [h3.2.1 8 (by decide)]; exact hst, h3.X⟩
theorem drop_cons {l : List Nat} {i : Nat} (hi : i < l.length) : l.drop i = l.getD i 0 :: l.drop (i + 1) := by
  rw [List.drop_eq_getElem_cons hi, List.getD_eq_getElem?_getD, List.getElem?_eq_getElem hi]; rfl
theorem take_snoc {l : List Nat} {i : Nat} (hi : i < l.length) : l.take (i + 1) = l.take i ++ [l.getD i 0] := by
  rw [List.take_succ, List.getD_eq_getElem?_getD, List.getElem?_eq_getElem hi]; rfl
theorem cnt_snoc {l : List Nat} {p : Nat → Bool} {i : Nat} (hi : i < l.length) : (l.take (i + 1)).countP p = (l.take i).countP p + if p (l.getD i 0) = true then 1 else 0 := by
  rw [take_snoc hi, List.countP_append, List.countP_singleton]
theorem out_loop {M : Wd} {S : SS} (h : EL w n L G M) (h2 : SE n M S) (hV : ∀ a ∈ S.2, a < 4 ^ n) (hlen : S.2.length ≤ 4096) {ρ : Type} {K : Int32 → Option ρ} : ∀ (r q i : Nat), i + r = S.2.length →
    F_X0_foundOut_L4 M K (q + 1 + r) (iI (((S.2.take i).countP (isE G n) : Nat) : Int)) (iI (i : Int)) = K (iI ((S.2.countP (isE G n) : Nat) : Int))
  | 0, q, i, hr => by
    show (if (M.1 44 9) ≤ iI (i : Int) then K _ else _) = _
    rw [h2.2.2, if_le (by omega) (by omega) (by omega) (by omega), if_pos (by omega), show i = S.2.length by omega, List.take_length]
  | r + 1, q, i, hr => by
    have hi : i < S.2.length := by omega
    have hv := hV _ (getD_mem hi)
    show (if (M.1 44 9) ≤ iI (i : Int) then K _ else if (4096 : Int32) ≤ iI (i : Int) then K _ else ldi (M.1 48) 4096 (iI (i : Int)) fun v3 => bnd (if (F_X0_isOutIn v3 M) = 0 then iI (((S.2.take i).countP (isE G n) : Nat) : Int) else (iI (((S.2.take i).countP (isE G n) : Nat) : Int) + (1 : Int32))) fun v7 => bnd (iI (i : Int) + (1 : Int32)) fun v10 => F_X0_foundOut_L4 M K (q + 1 + r) v7 v10) = _
    rw [h2.2.2, if_le (by omega) (by omega) (by omega) (by omega), if_neg (by omega), show (4096 : Int32) = iI 4096 from rfl, if_le (by omega) (by omega) (by omega) (by omega), if_neg (by omega), ldi_N (by omega) (by omega), h2.2.1 i hi, isOutIn_I h hv, i10_eq0, bnd_v, bnd_v, s1_I, s1_I]
    refine Eq.trans (congrArg (fun x => F_X0_foundOut_L4 M K (q + 1 + r) x (iI ((i + 1 : Nat) : Int))) ?_) (out_loop h h2 hV hlen r q (i + 1) (by omega))
    rw [cnt_snoc hi]
    by_cases e : isE G n (S.2.getD i 0) = true
    · rw [if_pos e, if_pos e]
    · rw [if_neg e, if_neg e, Nat.add_zero]
theorem srs_len {m : Nat} {S : SS} (h : SrS w L G n m s S) (hn : n ≤ 6) : S.2.length ≤ 4096 ∧ 0 < S.2.length ∧ ∀ a ∈ S.2, a < 4 ^ n := by
  obtain ⟨d, hI⟩ := id h
  have h1 : ∀ a ∈ S.2, a < 4 ^ n := fun a ha => (hI.1.2.1 a ha).1.1
  have h2 := nd_le hI.1.1 h1
  have h3 := pow4_le hn
  have h4 : S.1 s = 0 := hI.2.2.2.2.2.2.1 s rfl
  have h5 : s ∈ S.2 := hI.1.mem.mpr (by omega)
  exact ⟨by omega, List.length_pos_of_mem h5, h1⟩
theorem cout_I {M : Wd} {S : SS} (h : EL w n L G M) (h2 : SE n M S) (h4 : SrS w L G n 3 s S) : F_X0_foundOut M = some (iI (Aout w L G n s)) := by
  obtain ⟨l1, l2, l3⟩ := srs_len h4 h.1.1
  unfold F_X0_foundOut
  obtain ⟨p, hp⟩ := fuelS S.2.length (by omega)
  rw [hp, Aout_eq h4]
  exact out_loop h h2 l3 l1 (K := fun v => some v) S.2.length p 0 (by omega)
theorem ccnt_I {M : Wd} {S : SS} (h2 : SE n M S) (h4 : SrS w L G n 3 s S) : M.1 44 9 = iI (Acnt w L G n s) := by rw [Acnt_eq h4]; exact h2.2.2
theorem cfar_I {M : Wd} {S : SS} (h : EL w n L G M) (h2 : SE n M S) (h4 : SrS w L G n 3 s S) : F_X0_farthestFound M = some (iI (Afar w L G n s)) := by
  obtain ⟨l1, l2, l3⟩ := srs_len h4 h.1.1
  obtain ⟨b1, b2⟩ := BF.last h4 l2
  obtain ⟨d, hI⟩ := id h4
  have hv := (hI.1.2.1 _ b2).1
  have e1 : (S.2.length : Int) - 1 = ((S.2.length - 1 : Nat) : Int) := by omega
  unfold F_X0_farthestFound
  rw [h2.2.2, iL_1, iI_sub, bnd_v, e1, iL_0, if_lt (by omega) (by omega) (by omega) (by omega), if_neg (by omega), show (4096 : Int32) = iI 4096 from rfl, if_le (by omega) (by omega) (by omega) (by omega), if_neg (by omega), ldi_N (by omega) (by omega), h2.2.1 _ (by omega), costOf_I h h2.1 hv.1, if_pos hv.2, ob_s, Afar_eq h4 ⟨_, b2, rfl⟩ b1]
theorem call_loop {M : Wd} (h : EL w n L G M) {ρ : Type} {K : Int32 → Option ρ} : ∀ (r q i : Nat), i + r = 4 ^ n →
    F_X0_allArrangements_L4 M K (q + 1 + r) (iI ((fb_ct (okc w L G n) i : Nat) : Int)) (iI (i : Int)) = K (iI ((Aall w L G n : Nat) : Int))
  | 0, q, i, hr => by
    have hs := h.sz
    show (if (M.1 44 7) ≤ iI (i : Int) then K _ else _) = _
    rw [h.2.2.1, if_le (by omega) (by omega) (by omega) (by omega), if_pos (by omega), show i = 4 ^ n by omega]
    rfl
  | r + 1, q, i, hr => by
    have hs := h.sz
    show (if (M.1 44 7) ≤ iI (i : Int) then K _ else obind (F_X0_exists (iI (i : Int)) M) fun v2 => bnd (if v2 = 0 then iI ((fb_ct (okc w L G n) i : Nat) : Int) else (iI ((fb_ct (okc w L G n) i : Nat) : Int) + (1 : Int32))) fun v5 => bnd (iI (i : Int) + (1 : Int32)) fun v8 => F_X0_allArrangements_L4 M K (q + 1 + r) v5 v8) = _
    rw [h.2.2.1, if_le (by omega) (by omega) (by omega) (by omega), if_neg (by omega), exists_I h (by omega), ob_s, i10_eq0, bnd_v, bnd_v, s1_I, s1_I]
    refine Eq.trans (congrArg (fun x => F_X0_allArrangements_L4 M K (q + 1 + r) x (iI ((i + 1 : Nat) : Int))) ?_) (call_loop h r q (i + 1) (by omega))
    rw [fb_ct_succ]
    by_cases e : okc w L G n i = true
    · rw [if_pos e, if_pos e]
    · rw [if_neg e, if_neg e, Nat.add_zero]
theorem call_I {M : Wd} (h : EL w n L G M) : F_X0_allArrangements M = some (iI ((Aall w L G n : Nat) : Int)) := by
  have hs := h.sz
  unfold F_X0_allArrangements
  obtain ⟨p, hp⟩ := fuelS (4 ^ n) (by omega)
  rw [hp]
  exact call_loop h (K := fun v => some v) (4 ^ n) p 0 (by omega)
/-- without sources nothing is found -/
theorem BF.none {V Src : Nat → Prop} {nb : Nat → List Nat} {S : SS} (h : BF V Src nb S) (hno : ∀ a, ¬ Src a) : ∀ a, S.1 a = -1 := by
  obtain ⟨d, h1, h2, h3, h4, h5, h6, h7, h8⟩ := h
  have key : ∀ (k : Nat) a, S.1 a = (k : Int) → False := by
    intro k
    induction k with
    | zero => intro a ha; exact hno a (h8 a ha)
    | succ k ih =>
      intro a ha
      obtain ⟨u, u1, u2, u3⟩ := h6 a (h1.mem.mpr (by omega)) (by omega)
      exact ih u (by omega)
  intro a
  have := h1.lo a
  by_cases e : 0 ≤ S.1 a
  · exact absurd (show S.1 a = ((S.1 a).toNat : Int) by omega) (key _ a)
  · omega
theorem isE_0 {a : Nat} : isE G 0 a = false := by unfold isE; rfl
theorem Aend_0 {S : SS} (h : SrE w L G 0 S) : Aend w L G 0 s = -1 := by
  rw [Aend_eq h]
  exact BF.none h (fun a ha => by rw [isE_0] at ha; cases ha.2.1) s
theorem Aleast_0 {m : Nat} {S : SS} (h : SrS w L G 0 m s S) : Aleast w L G 0 m s = -1 := Aleast_eq h (Or.inl ⟨rfl, fun a _ ha => by rw [isE_0] at ha; cases ha⟩)
theorem Afuel_0 (hLG : LGok L G 0) {D : Nat → Int} (h : IsD w L G 0 s D) : Afuel w L G 0 s = -1 := Afuel_eq hLG h (Or.inl ⟨rfl, fun a _ ha => by rw [isE_0] at ha; cases ha⟩)
end AN
