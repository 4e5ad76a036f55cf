/-! ===== both sides' whole states; saving, taking back ===== -/
abbrev Pst : Type := Nat × Nat × Nat × Int × (Nat → Nat) × (Nat → Nat) × (Nat → Nat) × (Nat → Nat) × (Nat → Int)
def pC (b : Nat) (s : Pst) (M : Wd) : Prop := PkC b s.1 s.2.1 s.2.2.1 s.2.2.2.1 s.2.2.2.2.1 s.2.2.2.2.2.1 s.2.2.2.2.2.2.1 s.2.2.2.2.2.2.2.1 s.2.2.2.2.2.2.2.2 M
def pW (s : Pst) : Prop := PkW s.1 s.2.1 s.2.2.1 s.2.2.2.1 s.2.2.2.2.1 s.2.2.2.2.2.1 s.2.2.2.2.2.2.1 s.2.2.2.2.2.2.2.1 s.2.2.2.2.2.2.2.2
/-- now, the snapshot, whether there is one, how many are saved, these, the buffer's length and codes -/
abbrev Wst : Type := Pst × Pst × Bool × Nat × (Nat → Pst) × Nat × (Nat → Nat)
abbrev sN (S : Wst) : Pst := S.1
abbrev sK (S : Wst) : Pst := S.2.1
abbrev sF (S : Wst) : Bool := S.2.2.1
abbrev sC (S : Wst) : Nat := S.2.2.2.1
abbrev sV (S : Wst) : Nat → Pst := S.2.2.2.2.1
abbrev sL (S : Wst) : Nat := S.2.2.2.2.2.1
abbrev sT (S : Wst) : Nat → Nat := S.2.2.2.2.2.2
def isSv (b : Nat) : Prop := b = 14 ∨ b = 20 ∨ b = 26 ∨ b = 32 ∨ b = 38
def plc (M : Wd) : Prop := (∀ i, i < 5 → isSv (M.2.2 i)) ∧ ∀ i j, i < 5 → j < 5 → M.2.2 i = M.2.2 j → i = j
def CI (S : Wst) (M : Wd) : Prop := pC 1 (sN S) M ∧ M.1 0 6 = (if sF S = true then iI 1 else iI 0) ∧ (sF S = true → pC 7 (sK S) M) ∧ M.1 0 5 = iI (sC S : Int) ∧ (∀ i, i < sC S → pC (M.2.2 i) (sV S i) M) ∧ plc M ∧ M.1 51 1 = iI (sL S : Int) ∧ ∀ i, i < sL S → M.1 52 i = iI (sT S i : Int)
def WI (S : Wst) : Prop := pW (sN S) ∧ (sF S = true → pW (sK S)) ∧ sC S ≤ 5 ∧ (∀ i, i < sC S → pW (sV S i)) ∧ sL S ≤ 60 ∧ ∀ i, i < sL S → 33 ≤ sT S i ∧ sT S i ≤ 126
def frCl (M M' : Wd) : Prop := ∀ c, 52 < c → M'.1 c = M.1 c
def frSv (M M' : Wd) : Prop := ∀ c, 43 < c → M'.1 c = M.1 c
theorem frSv.cl {M N : Wd} (h : frSv M N) : frCl M N := fun c hc => h c (by omega)
def frMo (M M' : Wd) : Prop := (∀ c, c < 53 → M'.1 c = M.1 c) ∧ M'.2.2 = M.2.2 ∧ M'.2.1 62 = M.2.1 62
theorem frCl.rf (M : Wd) : frCl M M := fun _ _ => rfl
theorem frCl.tr {M N O : Wd} (h : frCl M N) (h2 : frCl N O) : frCl M O := fun c a => by rw [h2 c a, h c a]
theorem frMo.rf (M : Wd) : frMo M M := ⟨fun _ _ => rfl, rfl, rfl⟩
theorem frMo.tr {M N O : Wd} (h : frMo M N) (h2 : frMo N O) : frMo M O := ⟨fun c a => by rw [h2.1 c a, h.1 c a], by rw [h2.2.1, h.2.1], by rw [h2.2.2, h.2.2]⟩
theorem frX.cl {M N : Wd} (h : frX M N) : frCl M N := fun c hc => h.1 c (by omega)
theorem frC1.cl {M N : Wd} (h : frC1 M N) : frCl M N := fun c hc => h.1 c (by omega)
theorem frY.mo {M N : Wd} (h : frY M N) : frMo M N := ⟨fun c hc => h.1 c (by omega), by rw [h.2.2], by rw [h.2.2]⟩
theorem frM1.mo {M N : Wd} (h : frM1 M N) : frMo M N := ⟨fun c hc => h.1 c (by omega), by rw [h.2], by rw [h.2]⟩
theorem pC.cells {b : Nat} {s : Pst} {M N : Wd} (h : pC b s M) (hf : ∀ j, j ≤ 5 → N.1 (b + j) = M.1 (b + j)) : pC b s N := by
  obtain ⟨h1, h2, h3, h4, h5, h6, h7, h8, h9, h10⟩ := h
  have e0 : N.1 b = M.1 b := hf 0 (by omega)
  refine ⟨by rw [e0]; exact h1, by rw [e0]; exact h2, by rw [e0]; exact h3, by rw [e0]; exact h4, fun hz => by rw [e0]; exact h5 hz, fun i hi => by rw [hf 1 (by omega)]; exact h6 i hi, fun i hi => by rw [hf 2 (by omega)]; exact h7 i hi, fun i hi => by rw [hf 3 (by omega)]; exact h8 i hi, fun i hi => by rw [hf 4 (by omega)]; exact h9 i hi, fun i hi => by rw [hf 5 (by omega)]; exact h10 i hi⟩
theorem CI.fr {S : Wst} {M N : Wd} (h : CI S M) (hc5 : sC S ≤ 5) (h1 : ∀ c, c < 44 ∨ c = 51 ∨ c = 52 → N.1 c = M.1 c) (h2 : N.2.2 = M.2.2) : CI S N := by
  obtain ⟨a1, a2, a3, a4, a5, a6, a7, a8⟩ := h
  refine ⟨a1.cells fun j hj => h1 _ (by omega), by rw [h1 0 (by omega)]; exact a2, fun z => (a3 z).cells fun j hj => h1 _ (by omega), by rw [h1 0 (by omega)]; exact a4, fun i hi => ?_, ?_, by rw [h1 51 (by omega)]; exact a7, fun i hi => by rw [h1 52 (by omega)]; exact a8 i hi⟩
  · rw [h2]
    refine (a5 i hi).cells fun j hj => ?_
    have := a6.1 i (by omega)
    exact h1 _ (by unfold isSv at this; omega)
  · unfold plc; rw [h2]; exact a6
theorem CI.frx {S : Wst} {M N : Wd} (h : CI S M) (hc5 : sC S ≤ 5) (hf : frX M N) : CI S N := h.fr hc5 (fun c hc => hf.1 c (by omega)) (by rw [hf.2])
theorem CI.frmo {S : Wst} {M N : Wd} (h : CI S M) (hc5 : sC S ≤ 5) (hf : frMo M N) : CI S N := h.fr hc5 (fun c hc => hf.1 c (by omega)) hf.2.1
theorem mo_ref {M : Wd} {v : Int32} : frMo M (upI M 53 0 v) := ⟨fun c hc => upI_row_ne (by omega), rfl, rfl⟩
/-- another park now -/
def setN (S : Wst) (s : Pst) : Wst := (s, S.2)
theorem CI.now {S : Wst} {M N : Wd} {s : Pst} (h : CI S M) (hc5 : sC S ≤ 5) (h1 : pC 1 s N) (hf : frC1 M N) : CI (setN S s) N := by
  obtain ⟨a1, a2, a3, a4, a5, a6, a7, a8⟩ := h
  refine ⟨h1, by rw [hf.1 0 (by omega)]; exact a2, fun z => (a3 z).cells fun j hj => hf.1 _ (by omega), by rw [hf.1 0 (by omega)]; exact a4, fun i hi => ?_, ?_, by rw [hf.1 51 (by omega)]; exact a7, fun i hi => by rw [hf.1 52 (by omega)]; exact a8 i hi⟩
  · rw [hf.2]
    refine (a5 i hi).cells fun j hj => ?_
    have hi' : i < sC S := hi
    have := a6.1 i (by omega)
    exact hf.1 _ (by unfold isSv at this; omega)
  · unfold plc; rw [hf.2]; exact a6
theorem WI.now {S : Wst} {s : Pst} (h : WI S) (hs : pW s) : WI (setN S s) := ⟨hs, h.2⟩
/-! copies of the class -/
theorem cpA_out {M : Wd} {b a j N c : Nat} (h : c ≠ a + j) : (cpA M b a j N).1 c = M.1 c := if_neg h
theorem cpA_in {M : Wd} {b a j N k : Nat} (h : k < N) : (cpA M b a j N).1 (a + j) k = M.1 (b + j) k := by
  show (if a + j = a + j then va_cpy (M.1 (b + j)) (M.1 (a + j)) 0 0 N else _) k = _
  rw [if_pos rfl]
  show (if 0 ≤ k ∧ k < 0 + N then M.1 (b + j) (0 + (k - 0)) else _) = _
  rw [if_pos (by omega), Nat.zero_add, Nat.sub_zero]
theorem cpI_out {M : Wd} {b a j c : Nat} (h : c ≠ a) : (cpI M b a j).1 c = M.1 c := if_neg h
theorem cpI_at {M : Wd} {b a j k : Nat} : (cpI M b a j).1 a k = if k = j then M.1 b j else M.1 a k := upI_at
theorem cpP_out {M : Wd} {b a c : Nat} (h : ∀ j, j ≤ 5 → c ≠ a + j) : (cpP M b a).1 c = M.1 c := by
  unfold cpP cpAs
  have h0 : c ≠ a := h 0 (by omega)
  rw [cpI_out h0, cpI_out h0, cpI_out h0, cpI_out h0, cpI_out h0, cpA_out (h 5 (by omega)), cpA_out (h 4 (by omega)), cpA_out (h 3 (by omega)), cpA_out (h 2 (by omega)), cpA_out (h 1 (by omega))]
theorem cpP_2 {M : Wd} {b a : Nat} : (cpP M b a).2 = M.2 := rfl
theorem pC_copy {M : Wd} {b a : Nat} {s : Pst} (h : pC b s M) (hW : pW s) (hs : ∀ i j, i ≤ 5 → j ≤ 5 → b + j ≠ a + i) : pC a s (cpP M b a) := by
  obtain ⟨h1, h2, h3, h4, h5, h6, h7, h8, h9, h10⟩ := h
  have hn := PkW.n6 hW
  have hk := PkW.k60 hW
  have hb : ∀ j, j ≤ 5 → ∀ i, i ≤ 5 → b + j ≠ a + i := fun j hj i hi => hs i j hi hj
  have hba : b ≠ a := hs 0 0 (by omega) (by omega)
  have eb : ∀ j, j ≤ 5 → (cpAs M b a).1 (b + j) = M.1 (b + j) := fun j hj => by
    unfold cpAs
    rw [cpA_out (hb j hj 5 (by omega)), cpA_out (hb j hj 4 (by omega)), cpA_out (hb j hj 3 (by omega)), cpA_out (hb j hj 2 (by omega)), cpA_out (hb j hj 1 (by omega))]
  have eb0 : (cpAs M b a).1 b = M.1 b := eb 0 (by omega)
  have ea : ∀ k, 5 ≤ k → k ≤ 9 → (cpP M b a).1 a k = M.1 b k := fun k k1 k2 => by
    unfold cpP
    rw [cpI_at, cpI_out hba, cpI_out hba, cpI_out hba, cpI_out hba, eb0, cpI_at, cpI_out hba, cpI_out hba, cpI_out hba, eb0, cpI_at, cpI_out hba, cpI_out hba, eb0, cpI_at, cpI_out hba, eb0, cpI_at, eb0]
    match k, k1, k2 with
    | 5, _, _ => rfl
    | 6, _, _ => rfl
    | 7, _, _ => rfl
    | 8, _, _ => rfl
    | 9, _, _ => rfl
  have er : ∀ j, 1 ≤ j → j ≤ 5 → (cpP M b a).1 (a + j) = (cpAs M b a).1 (a + j) := fun j j1 j2 => by
    unfold cpP
    have h0 : a + j ≠ a := by omega
    rw [cpI_out h0, cpI_out h0, cpI_out h0, cpI_out h0, cpI_out h0]
  have e1 : ∀ k, k < 6 → (cpP M b a).1 (a + 1) k = M.1 (b + 1) k := fun k hk => by
    rw [er 1 (by omega) (by omega)]
    unfold cpAs
    rw [cpA_out (by omega), cpA_out (by omega), cpA_out (by omega), cpA_out (by omega), cpA_in hk]
  have e2 : ∀ k, k < 6 → (cpP M b a).1 (a + 2) k = M.1 (b + 2) k := fun k hk => by
    rw [er 2 (by omega) (by omega)]
    unfold cpAs
    rw [cpA_out (by omega), cpA_out (by omega), cpA_out (by omega), cpA_in hk, cpA_out (hb 2 (by omega) 1 (by omega))]
  have e3 : ∀ k, k < 6 → (cpP M b a).1 (a + 3) k = M.1 (b + 3) k := fun k hk => by
    rw [er 3 (by omega) (by omega)]
    unfold cpAs
    rw [cpA_out (by omega), cpA_out (by omega), cpA_in hk, cpA_out (hb 3 (by omega) 2 (by omega)), cpA_out (hb 3 (by omega) 1 (by omega))]
  have e4 : ∀ k, k < 60 → (cpP M b a).1 (a + 4) k = M.1 (b + 4) k := fun k hk => by
    rw [er 4 (by omega) (by omega)]
    unfold cpAs
    rw [cpA_out (by omega), cpA_in hk, cpA_out (hb 4 (by omega) 3 (by omega)), cpA_out (hb 4 (by omega) 2 (by omega)), cpA_out (hb 4 (by omega) 1 (by omega))]
  have e5 : ∀ k, k < 60 → (cpP M b a).1 (a + 5) k = M.1 (b + 5) k := fun k hk => by
    rw [er 5 (by omega) (by omega)]
    unfold cpAs
    rw [cpA_in hk, cpA_out (hb 5 (by omega) 4 (by omega)), cpA_out (hb 5 (by omega) 3 (by omega)), cpA_out (hb 5 (by omega) 2 (by omega)), cpA_out (hb 5 (by omega) 1 (by omega))]
  exact ⟨by rw [ea 5 (by omega) (by omega)]; exact h1, by rw [ea 6 (by omega) (by omega)]; exact h2, by rw [ea 7 (by omega) (by omega)]; exact h3, by rw [ea 8 (by omega) (by omega)]; exact h4, fun z => by rw [ea 9 (by omega) (by omega)]; exact h5 z, fun i hi => by rw [e1 i (by omega)]; exact h6 i hi, fun i hi => by rw [e2 i (by omega)]; exact h7 i hi, fun i hi => by rw [e3 i (by omega)]; exact h8 i hi, fun i hi => by rw [e4 i (by omega)]; exact h9 i hi, fun i hi => by rw [e5 i (by omega)]; exact h10 i hi⟩
theorem ccopy_I {M : Wd} {b a : Nat} {s : Pst} (h : pC b s M) (hb : isPk b = true) (ha : isPk a = true) : F_X3_copy b a M = some (cpP M b a) := by
  unfold F_X3_copy
  have h8 : M.1 b 8 = 0 ∨ M.1 b 8 = 1 := by
    rw [h.2.2.2.1]
    by_cases e : s.2.2.2.1 = -1
    · rw [if_pos e]; exact Or.inl rfl
    · rw [if_neg e]; exact Or.inr rfl
  rw [if_pos ⟨hb, ha, h8⟩]
theorem isSv.pk {b : Nat} (h : isSv b) : isPk b = true := by
  rcases h with rfl | rfl | rfl | rfl | rfl <;> rfl
/-- a state pushed -/
def savS (S : Wst) : Wst := if sC S < 5 then (sN S, sK S, sF S, sC S + 1, (fun i => if i = sC S then sN S else sV S i), sL S, sT S) else (sN S, sK S, sF S, 5, (fun i => if i = 4 then sN S else sV S (i + 1)), sL S, sT S)
theorem WI.sav {S : Wst} (h : WI S) : WI (savS S) := by
  obtain ⟨h1, h2, h3, h4, h5, h6⟩ := h
  unfold savS
  by_cases e : sC S < 5
  · rw [if_pos e]
    refine ⟨h1, h2, by show sC S + 1 ≤ 5; omega, fun i hi => ?_, h5, h6⟩
    have hi' : i < sC S + 1 := hi
    show pW (if i = sC S then sN S else sV S i)
    by_cases ei : i = sC S
    · rw [if_pos ei]; exact h1
    · rw [if_neg ei]; exact h4 i (by omega)
  · rw [if_neg e]
    refine ⟨h1, h2, Nat.le_refl 5, fun i hi => ?_, h5, h6⟩
    have hi' : i < 5 := hi
    show pW (if i = 4 then sN S else sV S (i + 1))
    by_cases ei : i = 4
    · rw [if_pos ei]; exact h1
    · rw [if_neg ei]; exact h4 (i + 1) (by omega)
theorem savS_sN {S : Wst} : sN (savS S) = sN S := by
  unfold savS
  by_cases e : sC S < 5
  · rw [if_pos e]
  · rw [if_neg e]
theorem pk_sep {b : Nat} (hb : isSv b) : ∀ i j, i ≤ 5 → j ≤ 5 → 1 + j ≠ b + i := fun i j hi hj => by
  unfold isSv at hb; omega
theorem sv_sep {b d : Nat} (hb : isSv b) (hd : isSv d) (hne : b ≠ d) : ∀ j, j ≤ 5 → ∀ i, i ≤ 5 → b + j ≠ d + i := fun j hj i hi => by
  unfold isSv at hb hd; omega
/-- the class: the rest of save, where there is room -/
theorem push_c {S : Wst} {M : Wd} {c : Nat} {sv : Nat → Pst} (h1 : pC 1 (sN S) M) (hW : WI S) (h6 : M.1 0 6 = (if sF S = true then iI 1 else iI 0)) (h7 : sF S = true → pC 7 (sK S) M) (hc : c < 5) (h5 : M.1 0 5 = iI (c : Int)) (hv : ∀ i, i < c → pC (M.2.2 i) (sv i) M) (hp : plc M) (hl : M.1 51 1 = iI (sL S : Int)) (ht : ∀ i, i < sL S → M.1 52 i = iI (sT S i : Int)) :
    ∃ M', (inb 5 (M.1 0 5) <| obind (F_X3_copy 1 (M.2.2 (M.1 0 5).toNatClampNeg) M) fun M9 => some (upI M9 0 5 ((M9.1 0 5) + (1 : Int32)))) = some M' ∧ CI (sN S, sK S, sF S, c + 1, (fun i => if i = c then sN S else sv i), sL S, sT S) M' ∧ frSv M M' := by
  have hsv := hp.1 c hc
  have ho : ∀ x, ¬ (M.2.2 c ≤ x ∧ x ≤ M.2.2 c + 5) → (cpP M 1 (M.2.2 c)).1 x = M.1 x := fun x hx => cpP_out (fun j hj => by omega)
  have h0 : ¬ (M.2.2 c ≤ 0 ∧ 0 ≤ M.2.2 c + 5) := by unfold isSv at hsv; omega
  rw [h5, inb_N hc (by omega), iI_clN (by omega), ccopy_I h1 rfl hsv.pk, ob_s, ho 0 h0, h5, s1_I]
  have hU : ∀ x, x ≠ 0 → (upI (cpP M 1 (M.2.2 c)) 0 5 (iI ((c + 1 : Nat) : Int))).1 x = (cpP M 1 (M.2.2 c)).1 x := fun x hx => upI_row_ne hx
  refine ⟨_, rfl, ⟨?_, ?_, fun z => ?_, ?_, fun i hi => ?_, hp, ?_, fun i hi => ?_⟩, fun x hx => ?_⟩
  · refine h1.cells fun j hj => ?_
    rw [hU _ (by omega), ho _ (by unfold isSv at hsv; omega)]
  · rw [upI_at, if_neg (by decide), ho 0 h0]; exact h6
  · refine (h7 z).cells fun j hj => ?_
    rw [hU _ (by omega), ho _ (by unfold isSv at hsv; omega)]
  · rw [upI_at, if_pos rfl]
  · have hi' : i < c + 1 := hi
    show pC (M.2.2 i) (if i = c then sN S else sv i) _
    by_cases e : i = c
    · rw [if_pos e, e]
      refine (pC_copy h1 hW.1 (pk_sep hsv)).cells fun j hj => ?_
      rw [hU _ (by unfold isSv at hsv; omega)]
    · rw [if_neg e]
      have hsi := hp.1 i (by omega)
      have hne : M.2.2 i ≠ M.2.2 c := fun z => e (hp.2 i c (by omega) hc z)
      refine (hv i (by omega)).cells fun j hj => ?_
      rw [hU _ (by unfold isSv at hsi; omega), ho _ (by unfold isSv at hsi hsv; omega)]
  · rw [hU _ (by omega), ho _ (by unfold isSv at hsv; omega)]; exact hl
  · rw [hU _ (by omega), ho _ (by unfold isSv at hsv; omega)]; exact ht i hi
  · rw [hU _ (by omega), ho _ (by unfold isSv at hsv; omega)]
theorem dropOld_loop {v1 : Nat} {p0 : Nat → Nat} {ρ : Type} {K : Wd → Option ρ} : ∀ (r i q : Nat) (M : Wd), i + r = 5 → 1 ≤ i → (∀ j, j < 5 → isSv (p0 j)) → (∀ j, M.2.2 j = if j + 1 < i then p0 (j + 1) else p0 j) →
    ∃ M', F_X3_dropOldestSaved_L9 v1 K (q + 1 + r) (iI (i : Int)) M = K M' ∧ M'.1 = M.1 ∧ ∀ j, M'.2.2 j = if j < 4 then p0 (j + 1) else p0 j
  | 0, i, q, M, hr, hi, hs, hp => by
    refine ⟨M, ?_, rfl, fun j => ?_⟩
    · show (if (5 : Int32) ≤ iI (i : Int) then K M else _) = K M
      rw [show (5 : Int32) = iI 5 from rfl, if_le (by omega) (by omega) (by omega) (by omega), if_pos (by omega)]
    · rw [hp j]
      by_cases e : j < 4
      · rw [if_pos (by omega), if_pos e]
      · rw [if_neg (by omega), if_neg e]
  | r + 1, i, q, M, hr, hi, hs, hp => by
    have hpi : M.2.2 i = p0 i := by rw [hp i, if_neg (by omega)]
    show ∃ M', (if (5 : Int32) ≤ iI (i : Int) then K M else inb 5 (iI (i : Int)) <| inb 5 (iI (i : Int) - (1 : Int32)) <| grd (isPk (M.2.2 (iI (i : Int)).toNatClampNeg) = true) <| bnd (iI (i : Int) + (1 : Int32)) fun v9 => F_X3_dropOldestSaved_L9 v1 K (q + 1 + r) v9 (upP M (iI (i : Int) - (1 : Int32)).toNatClampNeg (M.2.2 (iI (i : Int)).toNatClampNeg))) = K M' ∧ _
    rw [show (5 : Int32) = iI 5 from rfl, if_le (by omega) (by omega) (by omega) (by omega), if_neg (by omega), inb_N (by omega) (by omega), s1_I, iL_1, iI_sub, show (i : Int) - 1 = ((i - 1 : Nat) : Int) by omega, inb_N (by omega) (by omega), iI_clN (by omega), iI_clN (by omega), hpi, grd_t (hs i (by omega)).pk, bnd_v]
    obtain ⟨M1, k1, k2, k3⟩ := dropOld_loop (v1 := v1) (K := K) r (i + 1) q (upP M (i - 1) (p0 i)) (by omega) (by omega) hs (fun j => by
      show (if j = i - 1 then p0 i else M.2.2 j) = _
      by_cases e : j = i - 1
      · rw [if_pos e, if_pos (by omega), show j + 1 = i by omega]
      · rw [if_neg e, hp j]
        by_cases e2 : j + 1 < i
        · rw [if_pos e2, if_pos (by omega)]
        · rw [if_neg e2, if_neg (by omega)])
    exact ⟨M1, k1, k2, k3⟩
theorem csave_S {S : Wst} {M : Wd} (h : CI S M) (hW : WI S) : ∃ M', F_X3_save M = some M' ∧ CI (savS S) M' ∧ frSv M M' := by
  obtain ⟨a1, a2, a3, a4, a5, a6, a7, a8⟩ := h
  have hc := hW.2.2.1
  unfold F_X3_save
  rw [a4, show (5 : Int32) = iI 5 from rfl, if_lt (by omega) (by omega) (by omega) (by omega)]
  by_cases e : sC S < 5
  · rw [if_pos (by omega), ob_s]
    obtain ⟨M', k1, k2, k3⟩ := push_c a1 hW a2 a3 e a4 a5 a6 a7 a8
    refine ⟨M', k1, ?_, k3⟩
    unfold savS
    rw [if_pos e]; exact k2
  · rw [if_neg (by omega)]
    unfold F_X3_dropOldestSaved
    rw [bnd_v]
    obtain ⟨p, hp⟩ := fuelS 4 (by decide)
    rw [hp]
    obtain ⟨M1, f1, f2, f3⟩ := dropOld_loop (v1 := M.2.2 0) (p0 := M.2.2) (K := fun M11 => grd (isPk (M.2.2 0) = true) <| some (upI (upP M11 4 (M.2.2 0)) 0 5 (4 : Int32))) 4 1 p M (by omega) (Nat.le_refl 1) a6.1 (fun j => by rw [if_neg (by omega)])
    have f1' : F_X3_dropOldestSaved_L9 (M.2.2 0) (fun M11 => grd (isPk (M.2.2 0) = true) <| some (upI (upP M11 4 (M.2.2 0)) 0 5 (4 : Int32))) (p + 1 + 4) (1 : Int32) M = some (upI (upP M1 4 (M.2.2 0)) 0 5 (4 : Int32)) := by
      refine Eq.trans f1 ?_
      show grd (isPk (M.2.2 0) = true) _ = _
      rw [grd_t (a6.1 0 (by omega)).pk]
    rw [f1', ob_s, ob_s]
    have hrow : ∀ x, x ≠ 0 → (upI (upP M1 4 (M.2.2 0)) 0 5 (4 : Int32)).1 x = M.1 x := fun x hx => by
      rw [upI_row_ne hx]
      show M1.1 x = _
      rw [f2]
    have hpl : ∀ j, j < 5 → (upI (upP M1 4 (M.2.2 0)) 0 5 (4 : Int32)).2.2 j = if j = 4 then M.2.2 0 else M.2.2 (j + 1) := fun j hj => by
      show (if j = 4 then M.2.2 0 else M1.2.2 j) = _
      by_cases e4 : j = 4
      · rw [if_pos e4, if_pos e4]
      · rw [if_neg e4, if_neg e4, f3 j, if_pos (by omega)]
    obtain ⟨M', k1, k2, k3⟩ := push_c (S := S) (M := upI (upP M1 4 (M.2.2 0)) 0 5 (4 : Int32)) (c := 4) (sv := fun i => sV S (i + 1)) (a1.cells fun j hj => hrow _ (by omega)) hW (by
      rw [upI_at, if_neg (by decide)]
      show M1.1 0 6 = _
      rw [f2]; exact a2) (fun z => (a3 z).cells fun j hj => hrow _ (by omega)) (by omega) (by rw [upI_at, if_pos rfl]; rfl) (fun i hi => by
      rw [hpl i (by omega), if_neg (by omega)]
      have hsi := a6.1 (i + 1) (by omega)
      exact (a5 (i + 1) (by omega)).cells fun j hj => hrow _ (by unfold isSv at hsi; omega)) ⟨fun i hi => by
      rw [hpl i hi]
      by_cases e4 : i = 4
      · rw [if_pos e4]; exact a6.1 0 (by omega)
      · rw [if_neg e4]; exact a6.1 (i + 1) (by omega), fun i j hi hj hij => by
      rw [hpl i hi, hpl j hj] at hij
      by_cases ei : i = 4
      · by_cases ej : j = 4
        · omega
        · rw [if_pos ei, if_neg ej] at hij
          have := a6.2 _ _ (by omega) (by omega) hij
          omega
      · by_cases ej : j = 4
        · rw [if_neg ei, if_pos ej] at hij
          have := a6.2 _ _ (by omega) (by omega) hij
          omega
        · rw [if_neg ei, if_neg ej] at hij
          have := a6.2 _ _ (by omega) (by omega) hij
          omega⟩ (by rw [hrow _ (by omega)]; exact a7) (fun i hi => by rw [hrow _ (by omega)]; exact a8 i hi)
    refine ⟨M', k1, ?_, fun x hx => by rw [k3 x hx, hrow x (by omega)]⟩
    unfold savS
    rw [if_neg e]; exact k2
theorem csave_I {S : Wst} {M : Wd} (h : CI S M) (hW : WI S) : ∃ M', F_X3_save M = some M' ∧ CI (savS S) M' ∧ frCl M M' := by
  obtain ⟨M', h1, h2, h3⟩ := csave_S h hW
  exact ⟨M', h1, h2, h3.cl⟩
