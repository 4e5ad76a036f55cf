/-! ===== reading and doing whole texts ===== -/
section WK
variable {tl : Nat} {tc : Nat → Nat}
def nsc (tc : Nat → Nat) : Nat → Nat → Nat
  | 0, _ => 0
  | r + 1, p => (if tc p = 59 then 1 else 0) + nsc tc r (p + 1)
def nsA (tl : Nat) (tc : Nat → Nat) (p : Nat) : Nat := nsc tc (tl - p) p
theorem nsc_le : ∀ r p, nsc tc r p ≤ r
  | 0, _ => Nat.le_refl 0
  | r + 1, p => by
    have := nsc_le r (p + 1)
    show (if tc p = 59 then 1 else 0) + nsc tc r (p + 1) ≤ r + 1
    split <;> omega
theorem nsA_e : nsA tl tc tl = 0 := by unfold nsA; rw [Nat.sub_self]; rfl
theorem nsA_s {p : Nat} (h : p < tl) : nsA tl tc p = (if tc p = 59 then 1 else 0) + nsA tl tc (p + 1) := by
  unfold nsA
  rw [show tl - p = (tl - (p + 1)) + 1 by omega]
  rfl
theorem nsA_skip {p' : Nat} (hp : p' ≤ tl) : ∀ (r p : Nat), p + r = p' → (∀ i, p ≤ i → i < p' → tc i ≠ 59) → nsA tl tc p = nsA tl tc p'
  | 0, p, h, _ => by rw [show p = p' by omega]
  | r + 1, p, h, hn => by
    rw [nsA_s (by omega), if_neg (hn p (Nat.le_refl p) (by omega)), Nat.zero_add]
    exact nsA_skip hp r (p + 1) (by omega) (fun i h1 h2 => hn i (by omega) h2)
def frU (M N : Wd) : Prop := (∀ c, c ≠ 53 → N.1 c = M.1 c) ∧ (∀ j, ¬ (15 ≤ j ∧ j ≤ 18) → j ≠ 20 → N.1 53 j = M.1 53 j) ∧ N.2 = M.2
theorem frU.rf (M : Wd) : frU M M := ⟨fun _ _ => rfl, fun _ _ _ => rfl, rfl⟩
theorem frU.tr {M N O : Wd} (h : frU M N) (h2 : frU N O) : frU M O := ⟨fun c a => by rw [h2.1 c a, h.1 c a], fun j a b => by rw [h2.2.1 j a b, h.2.1 j a b], by rw [h2.2.2, h.2.2]⟩
theorem frR.U {M N : Wd} (h : frR M N) : frU M N := ⟨h.1, fun j a b => h.2.1 j (by omega), h.2.2⟩
theorem frU.up20 {M : Wd} {v : Int32} : frU M (upI M 53 20 v) := ⟨fun c hc => upI_row_ne hc, fun i _ hi => by rw [upI_at, if_neg hi], rfl⟩
theorem frU.W {M N : Wd} (h : frU M N) : frW M N := ⟨fun c hc => h.1 c (by omega), fun j a b c => h.2.1 j (by omega) (by omega), h.2.2⟩
theorem Tx.fru {M N : Wd} (h : Tx tl tc M) (hf : frU M N) : Tx tl tc N := h.frw hf.W
theorem cpl_next {p p' t : Nat} (h : ROK tl tc (bh 0 (tc p)) (p + 1) p' t) (hlt : p < tl) (hc : cplS (fiA tl tc 0 p)) : p' < tl → tc p' = 59 ∧ cplS (fiA tl tc 0 (p' + 1)) := fun hl => by
  obtain ⟨r1, r2, r3, r4, r5, r6, r7⟩ := h
  rw [fiA_s hlt, r4, fiA_s hl, r6 hl] at hc
  by_cases e : tc p' = 59
  · rw [if_pos e] at hc; exact ⟨e, hc⟩
  · rw [if_neg e, fiA_12 (tl - (p' + 1)) (p' + 1) (by omega)] at hc
    unfold cplS at hc; omega
/-- reading alone -/
theorem rd0_loop {a1 : Int32} {ρ : Type} {Kx : Wd → Option ρ} {K : Int32 → Wd → Option ρ} : ∀ (R r p q i j : Nat) (N : Wd), r ≤ R → p + r = tl → Tx tl tc N → N.1 53 15 = iI (p : Int) → N.1 53 20 = iI (j : Int) →
    (cplS (fiA tl tc 0 p) ∧ erA tl tc 0 p = tl ∧ ∃ N', F_X4_reads_L22 a1 Kx Kx Kx K (q + 2 + R) (iI 0) (iI (i : Int)) (iI 1) N = K (iI ((i + (1 + nsA tl tc p) : Nat) : Int)) N' ∧ frU N N' ∧ N'.1 53 20 = iI (j : Int)) ∨
    (¬ cplS (fiA tl tc 0 p) ∧ ∃ N', F_X4_reads_L22 a1 Kx Kx Kx K (q + 2 + R) (iI 0) (iI (i : Int)) (iI 1) N = Kx N' ∧ frU N N' ∧ N'.1 53 15 = iI ((erA tl tc 0 p : Nat) : Int))
  | R, 0, p, q, i, j, N, hrR, hr, h, hp, h20 => by
    right
    have h60 := h.1
    have e : p = tl := by omega
    rw [e] at hp ⊢
    refine ⟨by rw [fiA_e]; exact nc (by omega), N, ?_, frU.rf N, by rw [erA_e]; exact hp⟩
    rw [show q + 2 + R = (q + 1 + R) + 1 by omega]
    show (if iI 1 = 0 then _ else if (N.1 53 15) = (N.1 53 2) then Kx N else _) = Kx N
    rw [if_neg (by decide), hp, h.2.2.1, if_pos rfl]
  | 0, r + 1, p, q, i, j, N, hrR, hr, h, hp, h20 => by omega
  | R + 1, r + 1, p, q, i, j, N, hrR, hr, h, hp, h20 => by
    have h60 := h.1
    have hlt : p < tl := by omega
    have hcc := h.2.1 p hlt
    rw [show q + 2 + (R + 1) = (q + 2 + R) + 1 by omega]
    show (_ ∧ _ ∧ ∃ N', (if iI 1 = 0 then _ else if (N.1 53 15) = (N.1 53 2) then Kx N else ldi (N.1 54) 60 (N.1 53 15) fun v3 => if (F_X4_isSign v3) = 0 then Kx N else ldi (N.1 54) 60 (N.1 53 15) fun v8 => obind2 (F_X4_part v8 (upI N 53 15 ((N.1 53 15) + (1 : Int32)))) fun v11 M12 => if v11 = 0 then Kx M12 else obind2 (if iI 0 = 0 then some ((0 : Int32), M12) else obind2 (F_X4_does v8 M12) fun v19 M20 => if v19 = 0 then some ((0 : Int32), M20) else some ((1 : Int32), M20)) fun v16 M17 => bnd (if v16 = 0 then (0 : Int32) else (1 : Int32)) fun v25 => bnd (iI (i : Int) + (1 : Int32)) fun v29 => bnd (if (M17.1 53 2) ≤ (M17.1 53 15) then (0 : Int32) else (1 : Int32)) fun v31 => if v31 = 0 then F_X4_reads_L22 a1 Kx Kx Kx K (q + 2 + R) v16 v29 v31 (upI M17 53 20 ((M17.1 53 20) + v25)) else obind2 (F_X4_goesOn (59 : Int32) (upI M17 53 20 ((M17.1 53 20) + v25))) fun v36 M37 => if v36 = 0 then Kx M37 else F_X4_reads_L22 a1 Kx Kx Kx K (q + 2 + R) v16 v29 v31 M37) = _ ∧ _) ∨ (_ ∧ ∃ N', (if iI 1 = 0 then _ else if (N.1 53 15) = (N.1 53 2) then Kx N else ldi (N.1 54) 60 (N.1 53 15) fun v3 => if (F_X4_isSign v3) = 0 then Kx N else ldi (N.1 54) 60 (N.1 53 15) fun v8 => obind2 (F_X4_part v8 (upI N 53 15 ((N.1 53 15) + (1 : Int32)))) fun v11 M12 => if v11 = 0 then Kx M12 else obind2 (if iI 0 = 0 then some ((0 : Int32), M12) else obind2 (F_X4_does v8 M12) fun v19 M20 => if v19 = 0 then some ((0 : Int32), M20) else some ((1 : Int32), M20)) fun v16 M17 => bnd (if v16 = 0 then (0 : Int32) else (1 : Int32)) fun v25 => bnd (iI (i : Int) + (1 : Int32)) fun v29 => bnd (if (M17.1 53 2) ≤ (M17.1 53 15) then (0 : Int32) else (1 : Int32)) fun v31 => if v31 = 0 then F_X4_reads_L22 a1 Kx Kx Kx K (q + 2 + R) v16 v29 v31 (upI M17 53 20 ((M17.1 53 20) + v25)) else obind2 (F_X4_goesOn (59 : Int32) (upI M17 53 20 ((M17.1 53 20) + v25))) fun v36 M37 => if v36 = 0 then Kx M37 else F_X4_reads_L22 a1 Kx Kx Kx K (q + 2 + R) v16 v29 v31 M37) = Kx N' ∧ _)
    rw [if_neg (show ¬ iI 1 = (0 : Int32) by decide), hp, h.2.2.1, if_eq (by omega) (by omega) (by omega) (by omega), if_neg (by omega), ldi_N (by omega) (by omega), ldi_N (by omega) (by omega), h.2.2.2 p hlt, isSign_I (by omega), i10_eq0, s1_I]
    by_cases hs : bh 0 (tc p) = 12
    · right
      have hb := bad_12 hlt hs
      rw [if_neg (fun z => z hs)]
      exact ⟨hb.2, N, rfl, frU.rf N, by rw [hb.1]; exact hp⟩
    · rw [if_pos hs]
      have f1 : frR N (upI N 53 15 (iI ((p + 1 : Nat) : Int))) := frR.up (by omega)
      rcases part_I (h.fr f1) hlt (by rw [upI_at, if_pos rfl]) hs with ⟨N1, p', t, n1, n2, n3, n4, n5⟩ | ⟨N1, e, n1, n2, n3, n4⟩
      · have f2 := f1.tr n2
        have hx1 := h.fr f2
        have h20' : N1.1 53 20 = iI (j : Int) := by rw [f2.2.1 20 (by omega)]; exact h20
        have f3 : frU N (upI N1 53 20 (iI (j : Int))) := f2.U.tr frU.up20
        have hx2 := h.fru f3
        obtain ⟨r1, r2, r3, r4, r5, r6, r7⟩ := id n4
        have hskip : nsA tl tc p = nsA tl tc p' := by
          rw [nsA_s hlt, if_neg (fun z => by rw [z] at hs; exact hs rfl), Nat.zero_add]
          exact nsA_skip r2 (p' - (p + 1)) (p + 1) (by omega) r7
        have efi : fiA tl tc 0 p = fiA tl tc t p' := by rw [fiA_s hlt, r4]
        have eer : erA tl tc 0 p = erA tl tc t p' := by rw [erA_s hlt, if_neg hs, r3]
        rw [n1, ob2_s, if_neg (show ¬ (1 : Int32) = 0 by decide), if_pos (show iI 0 = (0 : Int32) from rfl), ob2_s, bnd_v, if_pos (show (0 : Int32) = 0 from rfl), bnd_v, bnd_v, hx1.2.2.1, n3, if_le (by omega) (by omega) (by omega) (by omega), s1_I i, h20', iL_0, iI_add, Int.add_zero]
        by_cases e : p' < tl
        · rw [if_neg (show ¬ (tl : Int) ≤ (p' : Int) by omega), if_neg (show ¬ (1 : Int32) = iI 0 by decide)]
          by_cases e9 : tc p' = 59
          · have d := goesOn_y hx2 (show (upI N1 53 20 (iI (j : Int))).1 53 15 = iI (p' : Int) by rw [upI_at, if_neg (by decide)]; exact n3) e e9
            have d' : F_X4_goesOn (59 : Int32) (upI N1 53 20 (iI (j : Int))) = _ := d
            rw [d', ob2_s, if_neg (show ¬ iI 1 = iI 0 by decide)]
            have f4 : frU N (upI (upI N1 53 20 (iI (j : Int))) 53 15 (iI ((p' + 1 : Nat) : Int))) := f3.tr (frR.up (by omega)).U
            have ih := rd0_loop (a1 := a1) (Kx := Kx) (K := K) R (tl - (p' + 1)) (p' + 1) q (i + 1) j _ (by omega) (by omega) (h.fru f4) (by rw [upI_at, if_pos rfl]) (by rw [upI_at, if_neg (by decide), upI_at, if_pos rfl])
            have e0 : bh t (tc p') = 0 := by rw [r6 e, if_pos e9]
            have efi2 : fiA tl tc 0 p = fiA tl tc 0 (p' + 1) := by rw [efi, fiA_s e, e0]
            have eer2 : erA tl tc 0 p = erA tl tc 0 (p' + 1) := by rw [eer, erA_s e, e0, if_neg (by decide)]
            rw [efi2, eer2, hskip, nsA_s e, if_pos e9]
            rcases ih with ⟨i1, i2, N', i3, i4, i5⟩ | ⟨i1, N', i3, i4, i5⟩
            · refine Or.inl ⟨i1, i2, N', ?_, f4.tr i4, i5⟩
              rw [show i + (1 + (1 + nsA tl tc (p' + 1))) = i + 1 + (1 + nsA tl tc (p' + 1)) by omega]
              exact i3
            · exact Or.inr ⟨i1, N', i3, f4.tr i4, i5⟩
          · right
            have d := goesOn_n hx2 (a := 59) (show (upI N1 53 20 (iI (j : Int))).1 53 15 = iI (p' : Int) by rw [upI_at, if_neg (by decide)]; exact n3) (by omega) (by omega) (fun _ => e9)
            have d' : F_X4_goesOn (59 : Int32) (upI N1 53 20 (iI (j : Int))) = _ := d
            rw [d', ob2_s, if_pos (show iI 0 = iI 0 from rfl)]
            have hb : Bad tl tc t p' p' := bad_12 e (by rw [r6 e, if_neg e9])
            refine ⟨by rw [efi]; exact hb.2, _, rfl, f3.tr (frR.up (by omega)).U, by rw [upI_at, if_pos rfl, eer, hb.1]⟩
        · left
          have ep : p' = tl := by omega
          rw [if_pos (show (tl : Int) ≤ (p' : Int) by omega), if_pos (show iI 0 = iI 0 from rfl)]
          refine ⟨by rw [efi, ep, fiA_e]; exact r5, by rw [eer, ep, erA_e], upI N1 53 20 (iI (j : Int)), ?_, f3, by rw [upI_at, if_pos rfl]⟩
          rw [hskip, ep, nsA_e, show q + 2 + R = (q + 1 + R) + 1 by omega]
          show (if iI 0 = 0 then K (iI ((i + 1 : Nat) : Int)) _ else _) = _
          rw [if_pos (show iI 0 = (0 : Int32) from rfl), Nat.add_zero]
      · right
        have hb := bad_s hlt rfl hs n4
        rw [n1, ob2_s, if_pos rfl]
        exact ⟨hb.2, N1, rfl, (f1.tr n2).U, by rw [hb.1]; exact n3⟩
/-- a world that holds the text alone -/
def Wt (tl : Nat) (tc : Nat → Nat) (p : Nat) : Wd := (fun c k => if c = 53 then (if k = 2 then iI (tl : Int) else iI (p : Int)) else iI (tc k : Int), fun _ _ => 0, fun _ => 0)
theorem Wt_Tx (h60 : tl ≤ 60) (hct : ∀ i, i < tl → 33 ≤ tc i ∧ tc i ≤ 126) (p : Nat) : Tx tl tc (Wt tl tc p) := ⟨h60, hct, rfl, fun _ _ => rfl⟩
theorem pos_uniq {N N2 : Wd} {p p1 p2 : Nat} (h1 : VL tl tc N p p1) (h2 : VL tl tc N2 p p2) (hs : bh 0 (tc p) ≠ 12) (l1 : p1 < tl → tc p1 = 59) (l2 : p2 < tl → tc p2 = 59) : p1 = p2 := by
  by_cases e1 : tc p = 104 ∨ tc p = 118
  · have a1 := (h1.1 e1).1
    have a2 := (h2.1 e1).1
    omega
  · by_cases e2 : tc p = 119
    · obtain ⟨v, -, -, a1, a2, a3⟩ := h1.2.1 e2
      obtain ⟨v', -, -, b1, b2, b3⟩ := h2.2.1 e2
      rcases a3 with ⟨a4, -⟩ | ⟨a4, -, a5, a6, a7⟩
      · rcases b3 with ⟨b4, -⟩ | ⟨b4, -, b5, b6, b7⟩
        · omega
        · rw [a4] at l1
          have := l1 b7
          omega
      · rcases b3 with ⟨b4, -⟩ | ⟨b4, -, b5, b6, b7⟩
        · rw [b4] at l2
          have := l2 a7
          omega
        · omega
    · by_cases e3 : tc p = 98 ∨ tc p = 100
      · have a1 := h1.2.2.1 e3
        have a2 := h2.2.2.1 e3
        omega
      · have e5 : 48 ≤ tc p ∧ tc p ≤ 53 := by
          rw [bh0, if_neg e1, if_neg e2, if_neg e3] at hs
          exact Classical.byContradiction fun z => hs (if_neg z)
        have a1 := (h1.2.2.2 e5.1 e5.2).1
        have a2 := (h2.2.2.2 e5.1 e5.2).1
        omega
theorem wk_ex (h60 : tl ≤ 60) (hct : ∀ i, i < tl → 33 ≤ tc i ∧ tc i ≤ 126) : ∀ (R r p : Nat), r ≤ R → p + r = tl → cplS (fiA tl tc 0 p) → ∀ s, pW s → ∃ (d : Nat) (s' : Pst), d ≤ 1 + nsA tl tc p ∧ pW s' ∧
    (∀ {ρ : Type} (K : Int32 → Int32 → Wd → Option ρ) (M : Wd) (j pt q : Nat), pt ≤ p → pC 1 s M → Tk tl tc M → ∃ M', F_X3_work_L33 K (q + 2 + R) (iI (j : Int)) (iI (p : Int)) (iI 0) (iI (pt : Int)) M = K (iI ((j + d : Nat) : Int)) (if d < 1 + nsA tl tc p then iI 1 else iI 0) M' ∧ pC 1 s' M' ∧ frZ M M') ∧
    (∀ {ρ : Type} (a1 : Int32) (Kx : Wd → Option ρ) (K : Int32 → Wd → Option ρ) (N : Wd) (j i q : Nat), pM 55 0 s N → Tx tl tc N → N.1 53 15 = iI (p : Int) → N.1 53 20 = iI (j : Int) → ∃ N', F_X4_reads_L22 a1 Kx Kx Kx K (q + 2 + R) (iI 1) (iI (i : Int)) (iI 1) N = K (iI ((i + (1 + nsA tl tc p) : Nat) : Int)) N' ∧ pM 55 0 s' N' ∧ frW N N' ∧ N'.1 53 20 = iI ((j + d : Nat) : Int))
  | R, 0, p, _, hr, hc, _, _ => by
    rw [show p = tl by omega, fiA_e] at hc
    exact absurd hc (nc (by omega))
  | 0, r + 1, p, hrR, hr, hc, _, _ => by omega
  | R + 1, r + 1, p, hrR, hr, hc, s, hw => by
    have hlt : p < tl := by omega
    have hs : bh 0 (tc p) ≠ 12 := fun z => by
      have := (bad_12 (tc := tc) hlt z).2
      exact this hc
    have key : ∀ N : Wd, Tx tl tc N → N.1 53 15 = iI ((p + 1 : Nat) : Int) → ∃ N1 p' t, F_X4_part (iI (tc p : Int)) N = some (1, N1) ∧ frR N N1 ∧ N1.1 53 15 = iI (p' : Nat) ∧ ROK tl tc (bh 0 (tc p)) (p + 1) p' t ∧ VL tl tc N1 p p' := fun N hx hp => by
      rcases part_I hx hlt hp hs with q | ⟨N1, e, n1, n2, n3, n4⟩
      · exact q
      · exact absurd hc (bad_s hlt rfl hs n4).2
    obtain ⟨N0, p', t, -, -, -, hR, hV⟩ := key (Wt tl tc (p + 1)) (Wt_Tx h60 hct _) rfl
    have hnx := cpl_next hR hlt hc
    obtain ⟨r1, r2, r3, r4, r5, r6, r7⟩ := id hR
    have hne : ∀ i, p ≤ i → i < p' → tc i ≠ 59 := fun i h1 h2 => by
      by_cases e : i = p
      · rw [e]; exact fun z => hs (by rw [z]; rfl)
      · exact r7 i (by omega) h2
    have hskip : nsA tl tc p = nsA tl tc p' := nsA_skip r2 (p' - p) p (by omega) hne
    obtain ⟨b, s1, hw1, hC1, hM1⟩ := doA_ex h60 hct hlt hs hV r2 (fun hl => (hnx hl).1) s hw
    /- the class's first part -/
    have hcl : ∀ {ρ : Type} (K : Int32 → Int32 → Wd → Option ρ) (M : Wd) (j pt q : Nat), pt ≤ p → pC 1 s M → Tk tl tc M → ∃ M1, F_X3_work_L33 K (q + 2 + (R + 1)) (iI (j : Int)) (iI (p : Int)) (iI 0) (iI (pt : Int)) M = (if b = true then F_X3_work_L33 K (q + 2 + R) (iI ((j + 1 : Nat) : Int)) (iI ((p' + 1 : Nat) : Int)) (iI 0) (iI ((pt + 1 : Nat) : Int)) M1 else F_X3_work_L33 K (q + 2 + R) (iI (j : Int)) (iI (p : Int)) (iI 1) (iI ((pt + 1 : Nat) : Int)) M1) ∧ pC 1 s1 M1 ∧ frZ M M1 ∧ Tk tl tc M1 := fun {ρ} K M j pt q hpt h hx => by
      obtain ⟨M1, m1, m2, m3⟩ := hC1 M h hx
      have hx1 := hx.fr (m3.1 51 (by omega)) (m3.1 52 (by omega))
      refine ⟨M1, ?_, m2, m3, hx1⟩
      rw [show q + 2 + (R + 1) = (q + 2 + R) + 1 by omega]
      show (if (60 : Int32) ≤ iI (pt : Int) then K (iI (j : Int)) (iI 0) M else if (M.1 51 1) ≤ iI (p : Int) then K (iI (j : Int)) (iI 0) M else if iI 0 = 0 then obind2 (F_X3_tryPart (iI (p : Int)) M) fun v10 M11 => obind3 (if v10 = 0 then some (iI (j : Int), iI (p : Int), (1 : Int32)) else bnd (iI (j : Int) + (1 : Int32)) fun v18 => obind (F_X2_nextPart (iI (p : Int)) M11) fun v20 => some (v18, v20, iI 0)) fun v14 v15 v16 => bnd (iI (pt : Int) + (1 : Int32)) fun v24 => F_X3_work_L33 K (q + 2 + R) v14 v15 v16 v24 M11 else K (iI (j : Int)) (iI 0) M) = _
      rw [show (60 : Int32) = iI 60 from rfl, if_le (by omega) (by omega) (by omega) (by omega), if_neg (by omega), hx.2.2.1, if_le (by omega) (by omega) (by omega) (by omega), if_neg (by omega), if_pos (show iI 0 = (0 : Int32) from rfl), m1, ob2_s]
      cases b with
      | true =>
        rw [if_pos rfl, if_neg (show ¬ (1 : Int32) = 0 by decide), if_pos rfl, s1_I, bnd_v, nextPart_I hx1 (by omega) r2 (fun hl => (hnx hl).1) hne, ob_s, ob3_s, s1_I, bnd_v]
      | false =>
        rw [if_neg (show ¬ false = true by decide), if_pos (show (0 : Int32) = 0 from rfl), if_neg (show ¬ false = true by decide), ob3_s, s1_I, bnd_v]
        rfl
    /- the model's first part -/
    have hmo : ∀ {ρ : Type} (a1 : Int32) (Kx : Wd → Option ρ) (K : Int32 → Wd → Option ρ) (N : Wd) (j i q : Nat), pM 55 0 s N → Tx tl tc N → N.1 53 15 = iI (p : Int) → N.1 53 20 = iI (j : Int) → ∃ N2, F_X4_reads_L22 a1 Kx Kx Kx K (q + 2 + (R + 1)) (iI 1) (iI (i : Int)) (iI 1) N = (if p' < tl then F_X4_reads_L22 a1 Kx Kx Kx K (q + 2 + R) (if b = true then iI 1 else iI 0) (iI ((i + 1 : Nat) : Int)) (iI 1) N2 else K (iI ((i + 1 : Nat) : Int)) N2) ∧ pM 55 0 s1 N2 ∧ frW N N2 ∧ Tx tl tc N2 ∧ (p' < tl → N2.1 53 15 = iI ((p' + 1 : Nat) : Int)) ∧ N2.1 53 20 = iI ((if b = true then j + 1 else j : Nat) : Int) := fun {ρ} a1 Kx K N j i q h hx hp h20 => by
      have hcc := hct p hlt
      have f1 : frR N (upI N 53 15 (iI ((p + 1 : Nat) : Int))) := frR.up (by omega)
      obtain ⟨N1, p1, t1, n1, n2, n3, n4, n5⟩ := key _ (hx.fr f1) (by rw [upI_at, if_pos rfl])
      have hp1 : p1 = p' := pos_uniq n5 hV hs (fun hl => (cpl_next n4 hlt hc hl).1) (fun hl => (hnx hl).1)
      subst hp1
      have f2 := f1.tr n2
      obtain ⟨N2, o1, o2, o3⟩ := hM1 N1 (h.row (f2.1 55 (by decide))) n5
      have hf12 : frW N N2 := f2.W.tr o3.W
      have hx2 := hx.frw hf12
      have h20' : N2.1 53 20 = iI (j : Int) := by rw [o3.2.1 20 (by decide) (by decide) (by decide), f2.2.1 20 (by omega)]; exact h20
      have h15' : N2.1 53 15 = iI (p1 : Int) := by rw [o3.2.1 15 (by decide) (by decide) (by decide)]; exact n3
      have e20 : iI (j : Int) + (if (if b = true then (1 : Int32) else (0 : Int32)) = 0 then (0 : Int32) else (1 : Int32)) = iI ((if b = true then j + 1 else j : Nat) : Int) := by
        cases b with
        | true => exact s1_I j
        | false =>
          show iI (j : Int) + iI 0 = iI (j : Int)
          rw [iI_add, Int.add_zero]
      have hgo : (if (if b = true then (1 : Int32) else (0 : Int32)) = 0 then some ((0 : Int32), N2) else some ((1 : Int32), N2)) = some (if b = true then (1 : Int32) else (0 : Int32), N2) := by
        cases b <;> rfl
      rw [show q + 2 + (R + 1) = (q + 2 + R) + 1 by omega]
      show ∃ N2, (if iI 1 = 0 then _ else if (N.1 53 15) = (N.1 53 2) then Kx N else ldi (N.1 54) 60 (N.1 53 15) fun v3 => if (F_X4_isSign v3) = 0 then Kx N else ldi (N.1 54) 60 (N.1 53 15) fun v8 => obind2 (F_X4_part v8 (upI N 53 15 ((N.1 53 15) + (1 : Int32)))) fun v11 M12 => if v11 = 0 then Kx M12 else obind2 (if iI 1 = 0 then some ((0 : Int32), M12) else obind2 (F_X4_does v8 M12) fun v19 M20 => if v19 = 0 then some ((0 : Int32), M20) else some ((1 : Int32), M20)) fun v16 M17 => bnd (if v16 = 0 then (0 : Int32) else (1 : Int32)) fun v25 => bnd (iI (i : Int) + (1 : Int32)) fun v29 => bnd (if (M17.1 53 2) ≤ (M17.1 53 15) then (0 : Int32) else (1 : Int32)) fun v31 => if v31 = 0 then F_X4_reads_L22 a1 Kx Kx Kx K (q + 2 + R) v16 v29 v31 (upI M17 53 20 ((M17.1 53 20) + v25)) else obind2 (F_X4_goesOn (59 : Int32) (upI M17 53 20 ((M17.1 53 20) + v25))) fun v36 M37 => if v36 = 0 then Kx M37 else F_X4_reads_L22 a1 Kx Kx Kx K (q + 2 + R) v16 v29 v31 M37) = _ ∧ _
      rw [if_neg (show ¬ iI 1 = (0 : Int32) by decide), hp, hx.2.2.1, if_eq (by omega) (by omega) (by omega) (by omega), if_neg (by omega), ldi_N (by omega) (by omega), ldi_N (by omega) (by omega), hx.2.2.2 p hlt, isSign_I (by omega), i10_eq0, if_pos hs, s1_I, n1, ob2_s, if_neg (show ¬ (1 : Int32) = 0 by decide), if_neg (show ¬ iI 1 = (0 : Int32) by decide), o1, ob2_s, hgo, ob2_s, bnd_v, bnd_v, bnd_v, hx2.2.2.1, h15', if_le (by omega) (by omega) (by omega) (by omega), s1_I i, h20', e20]
      have f3 : frW N (upI N2 53 20 (iI ((if b = true then j + 1 else j : Nat) : Int))) := hf12.tr (frW.up (by omega))
      have hx3 := hx.frw f3
      by_cases e : p1 < tl
      · have d := goesOn_y hx3 (show (upI N2 53 20 (iI ((if b = true then j + 1 else j : Nat) : Int))).1 53 15 = iI (p1 : Int) by rw [upI_at, if_neg (by decide)]; exact h15') e (hnx e).1
        have d' : F_X4_goesOn (59 : Int32) (upI N2 53 20 (iI ((if b = true then j + 1 else j : Nat) : Int))) = _ := d
        rw [if_neg (show ¬ (tl : Int) ≤ (p1 : Int) by omega), if_neg (show ¬ (1 : Int32) = 0 by decide), d', ob2_s, if_neg (show ¬ iI 1 = (0 : Int32) by decide)]
        refine ⟨upI (upI N2 53 20 (iI ((if b = true then j + 1 else j : Nat) : Int))) 53 15 (iI ((p1 + 1 : Nat) : Int)), ?_, o2.row (by rw [upI_row_ne (by decide), upI_row_ne (by decide)]), f3.tr (frW.up (by omega)), hx3.frw (frW.up (by omega)), fun _ => by rw [upI_at, if_pos rfl], by rw [upI_at, if_neg (by decide), upI_at, if_pos rfl]⟩
        rw [if_pos e]
        cases b <;> rfl
      · rw [if_pos (show (tl : Int) ≤ (p1 : Int) by omega), if_pos rfl]
        refine ⟨_, ?_, o2.row (upI_row_ne (by decide)), f3, hx3, fun z => absurd z e, by rw [upI_at, if_pos rfl]⟩
        rw [if_neg e, show q + 2 + R = (q + 1 + R) + 1 by omega]
        exact if_pos rfl
    cases b with
    | false =>
      refine ⟨0, s1, Nat.zero_le _, hw1, fun {ρ} K M j pt q hpt h hx => ?_, fun {ρ} a1 Kx K N j i q h hx hp h20 => ?_⟩
      · obtain ⟨M1, m1, m2, m3, m4⟩ := hcl K M j pt q hpt h hx
        refine ⟨M1, ?_, m2, m3⟩
        rw [m1, if_neg (by decide), if_pos (show 0 < 1 + nsA tl tc p by omega), show q + 2 + R = (q + 1 + R) + 1 by omega]
        show (if (60 : Int32) ≤ iI ((pt + 1 : Nat) : Int) then K (iI (j : Int)) (iI 1) M1 else if (M1.1 51 1) ≤ iI (p : Int) then K (iI (j : Int)) (iI 1) M1 else if iI 1 = 0 then _ else K (iI (j : Int)) (iI 1) M1) = K (iI (j : Int)) (iI 1) M1
        rw [if_neg (show ¬ iI 1 = (0 : Int32) by decide), ite_self, ite_self]
      · obtain ⟨N2, o1, o2, o3, o4, o5, o6⟩ := hmo a1 Kx K N j i q h hx hp h20
        rw [o1, hskip]
        have o6' : N2.1 53 20 = iI (j : Int) := o6
        by_cases e : p' < tl
        · rw [if_pos e, if_neg (by decide)]
          rcases rd0_loop (a1 := a1) (Kx := Kx) (K := K) R (tl - (p' + 1)) (p' + 1) q (i + 1) j N2 (by omega) (by omega) o4 (o5 e) o6' with ⟨i1, i2, N', i3, i4, i5⟩ | ⟨i1, -⟩
          · refine ⟨N', ?_, o2.row (i4.1 55 (by decide)), o3.tr i4.W, i5⟩
            rw [i3, nsA_s e, if_pos (hnx e).1, show i + 1 + (1 + nsA tl tc (p' + 1)) = i + (1 + (1 + nsA tl tc (p' + 1))) by omega]
          · exact absurd (hnx e).2 i1
        · rw [if_neg e, show p' = tl by omega, nsA_e]
          exact ⟨N2, rfl, o2, o3, o6'⟩
    | true =>
      by_cases e : p' < tl
      · obtain ⟨d, s', d1, d2, d3, d4⟩ := wk_ex h60 hct R (tl - (p' + 1)) (p' + 1) (by omega) (by omega) (hnx e).2 s1 hw1
        have hns : nsA tl tc p = 1 + nsA tl tc (p' + 1) := by rw [hskip, nsA_s e, if_pos (hnx e).1]
        refine ⟨1 + d, s', by omega, d2, fun {ρ} K M j pt q hpt h hx => ?_, fun {ρ} a1 Kx K N j i q h hx hp h20 => ?_⟩
        · obtain ⟨M1, m1, m2, m3, m4⟩ := hcl K M j pt q hpt h hx
          obtain ⟨M2, k1, k2, k3⟩ := d3 K M1 (j + 1) (pt + 1) q (by omega) m2 m4
          refine ⟨M2, ?_, k2, m3.tr k3⟩
          rw [m1, if_pos rfl, k1, hns, show j + 1 + d = j + (1 + d) by omega]
          by_cases ed : d < 1 + nsA tl tc (p' + 1)
          · rw [if_pos ed, if_pos (by omega)]
          · rw [if_neg ed, if_neg (by omega)]
        · obtain ⟨N2, o1, o2, o3, o4, o5, o6⟩ := hmo a1 Kx K N j i q h hx hp h20
          obtain ⟨N3, k1, k2, k3, k4⟩ := d4 a1 Kx K N2 (j + 1) (i + 1) q o2 o4 (o5 e) o6
          refine ⟨N3, ?_, k2, o3.tr k3, by rw [k4, show j + 1 + d = j + (1 + d) by omega]⟩
          rw [o1, if_pos e, if_pos rfl, k1, hns, show i + 1 + (1 + nsA tl tc (p' + 1)) = i + (1 + (1 + nsA tl tc (p' + 1))) by omega]
      · have ep : p' = tl := by omega
        have hns : nsA tl tc p = 0 := by rw [hskip, ep, nsA_e]
        refine ⟨1, s1, by omega, hw1, fun {ρ} K M j pt q hpt h hx => ?_, fun {ρ} a1 Kx K N j i q h hx hp h20 => ?_⟩
        · obtain ⟨M1, m1, m2, m3, m4⟩ := hcl K M j pt q hpt h hx
          refine ⟨M1, ?_, m2, m3⟩
          rw [m1, if_pos rfl, hns, if_neg (by omega), show q + 2 + R = (q + 1 + R) + 1 by omega]
          show (if (60 : Int32) ≤ iI ((pt + 1 : Nat) : Int) then K (iI ((j + 1 : Nat) : Int)) (iI 0) M1 else if (M1.1 51 1) ≤ iI ((p' + 1 : Nat) : Int) then K (iI ((j + 1 : Nat) : Int)) (iI 0) M1 else _) = K (iI ((j + 1 : Nat) : Int)) (iI 0) M1
          rw [m4.2.2.1, if_le (a := (tl : Int)) (by omega) (by omega) (by omega) (by omega), if_pos (show (tl : Int) ≤ ((p' + 1 : Nat) : Int) by omega), ite_self]
        · obtain ⟨N2, o1, o2, o3, o4, o5, o6⟩ := hmo a1 Kx K N j i q h hx hp h20
          refine ⟨N2, ?_, o2, o3, o6⟩
          rw [o1, if_neg e, hns]
end WK
