/-! ===== the model's answers by searches ===== -/
section MA
variable {n w k m : Nat} {z : Int} {L P G lc : Nat → Nat} {lb : Nat → Int}
theorem SrS_ex {s : Nat} (hm : m < 1000) (hn : n ≤ 6) (hw : w < 33554432) (hLG : LGok L G n) (hv : VV w L G n s) : ∃ S, SrS w L G n m s S := by
  obtain ⟨M', S, -, -, -, h4, -⟩ := mfrom_I hm (Wm_PM hn hw hLG) hv
  exact ⟨S, h4⟩
theorem SrE_ex (hn : n ≤ 6) (hw : w < 33554432) (hLG : LGok L G n) : ∃ S, SrE w L G n S := by
  obtain ⟨M', S, -, -, -, h4, -⟩ := mends_I (Wm_PM hn hw hLG)
  exact ⟨S, h4⟩
/-- the first m cars with walls ww in place of all with w -/
theorem encm_vv {ww : Nat} (hW : PkW n w k z L P G lc lb) (hm : m ≤ n) (hok : okb ww L G P m = true) : VV ww L G m (enc P m) := ⟨enc_lt fun i hi => hW.P4 (by omega), by rw [okc_enc fun i hi => hW.P4 (by omega)]; exact hok⟩
theorem n0_I {α : Type} {x y : α} (hn : n ≤ 6) : (if iI (n : Int) = (0 : Int32) then x else y) = if n = 0 then x else y := by
  rw [iL_0, if_eq (by omega) (by omega) (by omega) (by omega)]
  by_cases e : n = 0
  · rw [if_pos e, if_pos (by omega)]
  · rw [if_neg e, if_neg (by omega)]
theorem mprep_I {M : Wd} (h : PkM 55 0 n w k z L P G lc lb M) (hW : PkW n w k z L P G lc lb) :
    ∃ M', F_X4_prepares (M.1 55 0) (M.1 55 19) M = some M' ∧ PM w n L G M' ∧ PkM 55 0 n w k z L P G lc lb M' ∧ F_X4_codeNow M' = some (iI ((enc P n : Nat) : Int)) ∧ frY M M' := by
  obtain ⟨M', k1, k2, k3⟩ := prep_I h hW (Nat.le_refl n) hW.2.1
  have h' := h.fry (Or.inl rfl) k3.Y
  rw [h.vn, h.vw]
  exact ⟨M', k1, k2, h', code_I k2 (fun i hi => h'.vP hi) (fun i hi => hW.P4 hi), k3.Y⟩
theorem mfewest_I {M : Wd} (hm : m < 1000) (h : PkM 55 0 n w k z L P G lc lb M) (hW : PkW n w k z L P G lc lb) :
    ∃ M', F_X4_fewest (iI (m : Int)) M = some (iI (Aleast w L G n m (enc P n)), M') ∧ PkM 55 0 n w k z L P G lc lb M' ∧ frY M M' := by
  have hn := hW.n6
  unfold F_X4_fewest
  obtain ⟨M1, f1, f2, f3, f4, f5⟩ := mprep_I h hW
  rw [f1, ob_s, f2.2.1, n0_I hn]
  by_cases e : n = 0
  · rw [if_pos e]
    obtain ⟨S, hS⟩ := SrS_ex hm hn hW.2.1 hW.2.2.1 hW.vv
    refine ⟨M1, ?_, f3, f5⟩
    subst e
    rw [Aleast_0 hS]; rfl
  · rw [if_neg e, f4, ob_s]
    obtain ⟨M2, S, g1, g2, g3, g4, g5, g6⟩ := mfrom_I hm f2 hW.vv
    rw [g1, ob_s, mleast_I g5 g2 g3 g4, ob_s]
    exact ⟨M2, rfl, f3.fry (Or.inl rfl) g6, f5.tr g6⟩
theorem mfends_I {M : Wd} (h : PkM 55 0 n w k z L P G lc lb M) (hW : PkW n w k z L P G lc lb) :
    ∃ M', F_X4_fewestEnds M = some (iI (Aend w L G n (enc P n)), M') ∧ PkM 55 0 n w k z L P G lc lb M' ∧ frY M M' := by
  have hn := hW.n6
  unfold F_X4_fewestEnds
  obtain ⟨M1, f1, f2, f3, f4, f5⟩ := mprep_I h hW
  obtain ⟨M2, S, g1, g2, g3, g4, g5, g6⟩ := mends_I f2
  have h2 := f3.fry (Or.inl rfl) g6
  have he := hW.elt
  have hs := pow4_le hn
  rw [f1, ob_s, g1, ob_s, g5.2.1, n0_I hn]
  by_cases e : n = 0
  · rw [if_pos e]
    refine ⟨M2, ?_, h2, f5.tr g6⟩
    subst e
    rw [Aend_0 g4]; rfl
  · rw [if_neg e, code_I g5 (fun i hi => h2.vP hi) (fun i hi => hW.P4 hi), ob_s, ldi_N (by omega) (by omega), g2.1 _ (by omega), ← Aend_eq g4]
    exact ⟨M2, rfl, h2, f5.tr g6⟩
theorem mplan_I {M : Wd} (h : PkM 55 0 n w k z L P G lc lb M) (hW : PkW n w k z L P G lc lb) :
    ∃ M' S, F_X4_planned M = some (iI (Aend w L G n (enc P n)), M') ∧ (n ≠ 0 → SM M' S) ∧ SrE w L G n S ∧ CB S ∧ PM w n L G M' ∧ PkM 55 0 n w k z L P G lc lb M' ∧ frY M M' := by
  have hn := hW.n6
  unfold F_X4_planned
  obtain ⟨M1, f1, f2, f3, f4, f5⟩ := mprep_I h hW
  obtain ⟨M2, S, g1, g2, g3, g4, g5, g6⟩ := mends_I f2
  have h2 := f3.fry (Or.inl rfl) g6
  have he := hW.elt
  have hs := pow4_le hn
  rw [f1, ob_s, f2.2.1, n0_I hn]
  by_cases e : n = 0
  · rw [if_pos e]
    refine ⟨M1, S, ?_, fun z => absurd e z, g4, g3, f2, f3, f5⟩
    subst e
    rw [Aend_0 g4]; rfl
  · rw [if_neg e, g1, ob_s, code_I g5 (fun i hi => h2.vP hi) (fun i hi => hW.P4 hi), ob_s, ldi_N (by omega) (by omega), g2.1 _ (by omega), ← Aend_eq g4]
    exact ⟨M2, S, rfl, fun _ => g2, g4, g3, g5, h2, f5.tr g6⟩
theorem mcheap_I {M : Wd} (h : PkM 55 0 n w k z L P G lc lb M) (hW : PkW n w k z L P G lc lb) :
    ∃ M', F_X4_cheapest M = some (iI (Afuel w L G n (enc P n)), M') ∧ PkM 55 0 n w k z L P G lc lb M' ∧ frY M M' := by
  have hn := hW.n6
  unfold F_X4_cheapest
  obtain ⟨M1, f1, f2, f3, f4, f5⟩ := mprep_I h hW
  rw [f1, ob_s, f2.2.1, n0_I hn]
  by_cases e : n = 0
  · rw [if_pos e]
    obtain ⟨D, hD⟩ := D_ex hn hW.2.1 hW.2.2.1 hW.vv
    refine ⟨M1, ?_, f3, f5⟩
    subst e
    rw [Afuel_0 hW.2.2.1 hD]; rfl
  · rw [if_neg e]
    obtain ⟨M2, y, D, g1, g2, g3, g4⟩ := queue_I f2 hW.vv (cnow := F_X4_codeNow) (fun M' hf => code_I (f2.frq hf) (fun i hi => (f3.fry (Or.inl rfl) hf.Y).vP hi) (fun i hi => hW.P4 hi))
    refine ⟨M2, ?_, f3.fry (Or.inl rfl) g4.Y, f5.tr g4.Y⟩
    rw [Afuel_eq hW.2.2.1 g2 g3]
    exact g1
theorem reached_loop {M : Wd} {S : SS} {a1 : Int32} {g : Nat → Nat} (h2 : M.1 53 14 = iI (S.2.length : Int)) (hlen : S.2.length ≤ 4096) (hg : ∀ i, i < S.2.length → (if a1 = 0 then some (1 : Int32) else if a1 = (1 : Int32) then ldi (M.1 60) 4096 (iI (i : Int)) fun v12 => if (F_X4_isEnd v12 M) = 0 then some (0 : Int32) else some (1 : Int32) else some (0 : Int32)) = some (iI (g i : Int))) {ρ : Type} {K : Int32 → Option ρ} : ∀ (r q i : Nat), i + r = S.2.length →
    F_X4_reached_L30 a1 M K (q + 1 + r) (iI ((fb_sm g i : Nat) : Int)) (iI (i : Int)) = K (iI ((fb_sm g S.2.length : Nat) : Int))
  | 0, q, i, hr => by
    show (if (M.1 53 14) ≤ iI (i : Int) then K _ else _) = _
    rw [h2, if_le (by omega) (by omega) (by omega) (by omega), if_pos (by omega), show i = S.2.length by omega]
  | r + 1, q, i, hr => by
    show (if (M.1 53 14) ≤ iI (i : Int) then K _ else obind (if a1 = 0 then some (1 : Int32) else if a1 = (1 : Int32) then ldi (M.1 60) 4096 (iI (i : Int)) fun v12 => if (F_X4_isEnd v12 M) = 0 then some (0 : Int32) else some (1 : Int32) else some (0 : Int32)) fun v9 => bnd (iI ((fb_sm g i : Nat) : Int) + v9) fun v18 => bnd (iI (i : Int) + (1 : Int32)) fun v20 => F_X4_reached_L30 a1 M K (q + 1 + r) v18 v20) = _
    rw [h2, if_le (by omega) (by omega) (by omega) (by omega), if_neg (by omega), hg i (by omega), ob_s, bnd_v, bnd_v, s1_I, iI_add]
    exact reached_loop h2 hlen hg r q (i + 1) (by omega)
theorem sm_cnt {l : List Nat} {p : Nat → Bool} : ∀ {N : Nat}, N ≤ l.length → fb_sm (fun i => if p (l.getD i 0) = true then 1 else 0) N = (l.take N).countP p
  | 0, _ => by rw [List.take_zero]; rfl
  | N + 1, h => by rw [fb_sm_succ, sm_cnt (N := N) (by omega), cnt_snoc (by omega)]
theorem mreach_I {M : Wd} (h : PkM 55 0 n w k z L P G lc lb M) (hW : PkW n w k z L P G lc lb) :
    ∃ M', F_X4_reached (0 : Int32) M = some (iI (Acnt w L G n (enc P n)), M') ∧ F_X4_reached (1 : Int32) M = some (iI (Aout w L G n (enc P n)), M') ∧ F_X4_reached (2 : Int32) M = some (iI (Afar w L G n (enc P n)), M') ∧ PkM 55 0 n w k z L P G lc lb M' ∧ frY M M' := by
  have hn := hW.n6
  have hs := pow4_le hn
  obtain ⟨M1, f1, f2, f3, f4, f5⟩ := mprep_I h hW
  obtain ⟨M2, S, g1, g2, g3, g4, g5, g6⟩ := mfrom_I (m := 3) (by decide) f2 hW.vv
  obtain ⟨l1, l2, l3⟩ := srs_len g4 hn
  obtain ⟨p, hp⟩ := fuelS S.2.length (by omega)
  obtain ⟨b1, b2⟩ := BF.last g4 l2
  have hb := l3 _ b2
  refine ⟨M2, ?_, ?_, ?_, f3.fry (Or.inl rfl) g6, f5.tr g6⟩
  · unfold F_X4_reached
    rw [f1, ob_s, f4, ob_s, show (3 : Int32) = iI ((3 : Nat) : Int) from rfl, g1, ob_s, hp]
    refine Eq.trans (reached_loop (S := S) (g := fun _ => 1) g2.2.2 l1 (fun i _ => if_pos rfl) S.2.length p 0 (by omega)) ?_
    rw [if_neg (by decide), fb_sm_const, Nat.mul_one, Acnt_eq g4]
  · unfold F_X4_reached
    rw [f1, ob_s, f4, ob_s, show (3 : Int32) = iI ((3 : Nat) : Int) from rfl, g1, ob_s, hp]
    refine Eq.trans (reached_loop (S := S) (g := fun i => if isE G n (S.2.getD i 0) = true then 1 else 0) g2.2.2 l1 (fun i hi => ?_) S.2.length p 0 (by omega)) ?_
    · rw [if_neg (by decide), if_pos rfl, ldi_N (by omega) (by omega), g2.2.1 i hi, isEnd_I g5 (l3 _ (getD_mem hi)), i10_eq0]
      by_cases e : isE G n (S.2.getD i 0) = true
      · rw [if_pos e, if_pos e]; rfl
      · rw [if_neg e, if_neg e]; rfl
    · rw [if_neg (by decide), sm_cnt (Nat.le_refl _), List.take_length, Aout_eq g4]
  · unfold F_X4_reached
    rw [f1, ob_s, f4, ob_s, show (3 : Int32) = iI ((3 : Nat) : Int) from rfl, g1, ob_s, hp]
    refine Eq.trans (reached_loop (S := S) (g := fun _ => 0) g2.2.2 l1 (fun i _ => by rw [if_neg (by decide), if_neg (by decide)]; rfl) S.2.length p 0 (by omega)) ?_
    have e1 : (S.2.length : Int) - 1 = ((S.2.length - 1 : Nat) : Int) := by omega
    rw [if_pos rfl, g2.2.2, iL_1, iI_sub, e1, ldi_N (by omega) (by omega), g2.2.1 _ (by omega), ldi_N (by omega) (by omega), g2.1 _ (by omega), Afar_eq g4 ⟨_, b2, rfl⟩ b1]
theorem mall_loop {M : Wd} (h : PM w n L G M) {ρ : Type} {K : Int32 → Option ρ} : ∀ (r q i : Nat), i + r = 4 ^ n →
    F_X4_all_L21 M K (q + 1 + r) (iI ((fb_ct (okc w L G n) i : Nat) : Int)) (iI (i : Int)) = K (iI ((Aall w L G n : Nat) : Int))
  | 0, q, i, hr => by
    have hs := h.sz
    show (if ((1 : Int32) <<< (((2 : Int32) * (M.1 53 9)) &&& 31)) ≤ iI (i : Int) then K _ else _) = _
    rw [size_I h, if_le (by omega) (by omega) (by omega) (by omega), if_pos (by omega), show i = 4 ^ n by omega]
    rfl
  | r + 1, q, i, hr => by
    have hs := h.sz
    show (if ((1 : Int32) <<< (((2 : Int32) * (M.1 53 9)) &&& 31)) ≤ iI (i : Int) then K _ else obind (F_X4_isWhole (iI (i : Int)) M) fun v4 => bnd (if v4 = 0 then (0 : Int32) else (1 : Int32)) fun v7 => bnd (iI ((fb_ct (okc w L G n) i : Nat) : Int) + v7) fun v11 => bnd (iI (i : Int) + (1 : Int32)) fun v13 => F_X4_all_L21 M K (q + 1 + r) v11 v13) = _
    rw [size_I h, if_le (by omega) (by omega) (by omega) (by omega), if_neg (by omega), isWhole_I h (by omega), ob_s, i10_eq0, bnd_v, bnd_v, bnd_v, s1_I]
    refine Eq.trans (congrArg (fun x => F_X4_all_L21 M K (q + 1 + r) x (iI ((i + 1 : Nat) : Int))) ?_) (mall_loop h r q (i + 1) (by omega))
    rw [fb_ct_succ]
    by_cases e : okc w L G n i = true
    · rw [if_pos e, if_pos e, s1_I]
    · rw [if_neg e, if_neg e, iL_0, iI_add]; rfl
theorem mall_I {M : Wd} (h : PkM 55 0 n w k z L P G lc lb M) (hW : PkW n w k z L P G lc lb) :
    ∃ M', F_X4_all M = some (iI ((Aall w L G n : Nat) : Int), M') ∧ PkM 55 0 n w k z L P G lc lb M' ∧ frY M M' := by
  have hn := hW.n6
  have hs := pow4_le hn
  unfold F_X4_all
  obtain ⟨M1, f1, f2, f3, f4, f5⟩ := mprep_I h hW
  obtain ⟨p, hp⟩ := fuelS (4 ^ n) (by omega)
  rw [f1, ob_s, hp]
  exact ⟨M1, mall_loop f2 (K := fun v15 => some (v15, M1)) (4 ^ n) p 0 (by omega), f3, f5⟩
end MA
