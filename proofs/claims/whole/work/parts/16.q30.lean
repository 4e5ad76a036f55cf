/-! ===== the model's reader: parts ===== -/
section RD
variable {tl : Nat} {tc : Nat → Nat}
/-- read from q to q' -/
def ROK (tl : Nat) (tc : Nat → Nat) (s q q' t : Nat) : Prop := q ≤ q' ∧ q' ≤ tl ∧ erA tl tc s q = erA tl tc t q' ∧ fiA tl tc s q = fiA tl tc t q' ∧ cplS t ∧ (q' < tl → bh t (tc q') = if tc q' = 59 then 0 else 12) ∧ ∀ i, q ≤ i → i < q' → tc i ≠ 59
theorem rok_0 {q : Nat} (h : q ≤ tl) {t : Nat} (ht : cplS t) (hb : q < tl → bh t (tc q) = if tc q = 59 then 0 else 12) : ROK tl tc t q q t := ⟨Nat.le_refl _, h, rfl, rfl, ht, hb, fun i h1 h2 => by omega⟩
theorem rok_s {s q q' u t : Nat} (h : q < tl) (hb : bh s (tc q) = u) (hu : u ≠ 12) (h59 : tc q ≠ 59) (hr : ROK tl tc u (q + 1) q' t) : ROK tl tc s q q' t := by
  obtain ⟨r1, r2, r3, r4, r5, r6, r7⟩ := hr
  obtain ⟨o1, o2⟩ := ok_s (tc := tc) h hb hu
  refine ⟨by omega, r2, o1.trans r3, o2.trans r4, r5, r6, fun i h1 h2 => ?_⟩
  by_cases e : i = q
  · rw [e]; exact h59
  · exact r7 i (by omega) h2
theorem rok_11 {q : Nat} (h : q ≤ tl) : ROK tl tc 11 q q 11 := rok_0 h (Or.inl rfl) (fun _ => rfl)
theorem bh1 (c : Nat) : bh 1 c = if 48 ≤ c ∧ c ≤ 52 then 2 else 12 := rfl
theorem bh2 (c : Nat) : bh 2 c = if c = 46 then 3 else 12 := rfl
theorem bh3 (c : Nat) : bh 3 c = if 48 ≤ c ∧ c ≤ 51 then 4 else 12 := rfl
theorem bh4 (c : Nat) : bh 4 c = if c = 42 then 5 else 12 := rfl
theorem bh5 (c : Nat) : bh 5 c = if 50 ≤ c ∧ c ≤ 51 then 11 else 12 := rfl
theorem bh6 (c : Nat) : bh 6 c = if c = 43 ∨ c = 45 then 7 else 12 := rfl
theorem bh7 (c : Nat) : bh 7 c = if 49 ≤ c ∧ c ≤ 51 then 11 else 12 := rfl
theorem bh8 (c : Nat) : bh 8 c = if c = 49 then 9 else if c = 50 then 10 else if 48 ≤ c ∧ c ≤ 57 then 11 else 12 := rfl
theorem bh9 (c : Nat) : bh 9 c = if 48 ≤ c ∧ c ≤ 57 then 11 else if c = 59 then 0 else 12 := rfl
theorem bh10 (c : Nat) : bh 10 c = if 48 ≤ c ∧ c ≤ 52 then 11 else if c = 59 then 0 else 12 := rfl
theorem nc {s : Nat} (h : s < 9) : ¬ cplS s := by unfold cplS; omega
theorem car_I {M : Wd} (h : Tx tl tc M) {q f0 : Nat} (hf : f0 ≤ 5) (hq : q ≤ tl) (hp : M.1 53 15 = iI (q : Int)) :
    (∃ N, F_X4_car (iI (f0 : Int)) M = some (1, N) ∧ frR M N ∧ N.1 53 15 = iI ((q + 5 : Nat) : Int) ∧ ROK tl tc 1 q (q + 5) 11 ∧ (48 ≤ tc q ∧ tc q ≤ 52) ∧ (48 ≤ tc (q + 2) ∧ tc (q + 2) ≤ 51) ∧ (50 ≤ tc (q + 4) ∧ tc (q + 4) ≤ 51) ∧ N.1 53 16 = iI ((f0 : Int) + ((tc q : Int) - 48)) ∧ N.1 53 17 = iI ((tc (q + 2) : Int) - 48) ∧ N.1 53 18 = iI ((tc (q + 4) : Int) - 48)) ∨
    (∃ N e, F_X4_car (iI (f0 : Int)) M = some (0, N) ∧ frR M N ∧ N.1 53 15 = iI (e : Nat) ∧ Bad tl tc 1 q e) := by
  have h60 := h.1
  unfold F_X4_car
  by_cases c1 : q < tl ∧ 48 ≤ tc q ∧ tc q ≤ 52
  · have d1 := digit_y h (lo := 0) (hi := 4) hp c1.1 (by omega) (by omega) (by omega)
    have d1' : F_X4_digit (0 : Int32) (4 : Int32) M = _ := d1
    have b1 : bh 1 (tc q) = 2 := by rw [bh1, if_pos c1.2]
    rw [d1', ob2_s, if_neg (show ¬ iI 1 = (0 : Int32) by decide), upI_at (c := 53) (j := 18), if_neg (show ¬ 18 = 15 by decide), upI_at (c := 53) (j := 18), if_pos rfl, iI_add]
    generalize hM2 : upI (upI (upI M 53 18 (iI ((tc q : Int) - 48))) 53 15 (iI ((q + 1 : Nat) : Int))) 53 16 (iI ((f0 : Int) + ((tc q : Int) - 48))) = M2
    have f2 : frR M M2 := by rw [← hM2]; exact ((frR.up (by omega)).tr (frR.up (by omega))).tr (frR.up (by omega))
    have s2 : M2.1 53 15 = iI ((q + 1 : Nat) : Int) := by rw [← hM2, upI_at, if_neg (by decide), upI_at, if_pos rfl]
    have v2 : M2.1 53 16 = iI ((f0 : Int) + ((tc q : Int) - 48)) := by rw [← hM2, upI_at, if_pos rfl]
    by_cases c2 : q + 1 < tl ∧ tc (q + 1) = 46
    · have d2 := goesOn_y (h.fr f2) s2 c2.1 c2.2
      have d2' : F_X4_goesOn (46 : Int32) M2 = _ := d2
      have b2 : bh 2 (tc (q + 1)) = 3 := by rw [bh2, if_pos c2.2]
      rw [d2', ob2_s, if_neg (show ¬ iI 1 = (0 : Int32) by decide)]
      generalize hM3 : upI M2 53 15 (iI ((q + 1 + 1 : Nat) : Int)) = M3
      have f3 : frR M M3 := by rw [← hM3]; exact f2.tr (frR.up (by omega))
      have s3 : M3.1 53 15 = iI ((q + 2 : Nat) : Int) := by rw [← hM3, upI_at, if_pos rfl]
      have v3 : M3.1 53 16 = iI ((f0 : Int) + ((tc q : Int) - 48)) := by rw [← hM3, upI_at, if_neg (by decide)]; exact v2
      by_cases c3 : q + 2 < tl ∧ 48 ≤ tc (q + 2) ∧ tc (q + 2) ≤ 51
      · have d3 := digit_y (h.fr f3) (lo := 0) (hi := 3) s3 c3.1 (by omega) (by omega) (by omega)
        have d3' : F_X4_digit (0 : Int32) (3 : Int32) M3 = _ := d3
        have b3 : bh 3 (tc (q + 2)) = 4 := by rw [bh3, if_pos c3.2]
        rw [d3', ob2_s, if_neg (show ¬ iI 1 = (0 : Int32) by decide), upI_at (c := 53) (j := 18), if_neg (show ¬ 18 = 15 by decide), upI_at (c := 53) (j := 18), if_pos rfl]
        generalize hM4 : upI (upI (upI M3 53 18 (iI ((tc (q + 2) : Int) - 48))) 53 15 (iI ((q + 2 + 1 : Nat) : Int))) 53 17 (iI ((tc (q + 2) : Int) - 48)) = M4
        have f4 : frR M M4 := by rw [← hM4]; exact f3.tr (((frR.up (by omega)).tr (frR.up (by omega))).tr (frR.up (by omega)))
        have s4 : M4.1 53 15 = iI ((q + 3 : Nat) : Int) := by rw [← hM4, upI_at, if_neg (by decide), upI_at, if_pos rfl]
        have v4 : M4.1 53 16 = iI ((f0 : Int) + ((tc q : Int) - 48)) := by rw [← hM4, upI_at, if_neg (by decide), upI_at, if_neg (by decide), upI_at, if_neg (by decide)]; exact v3
        have w4 : M4.1 53 17 = iI ((tc (q + 2) : Int) - 48) := by rw [← hM4, upI_at, if_pos rfl]
        by_cases c4 : q + 3 < tl ∧ tc (q + 3) = 42
        · have d4 := goesOn_y (h.fr f4) s4 c4.1 c4.2
          have d4' : F_X4_goesOn (42 : Int32) M4 = _ := d4
          have b4 : bh 4 (tc (q + 3)) = 5 := by rw [bh4, if_pos c4.2]
          rw [d4', ob2_s, if_neg (show ¬ iI 1 = (0 : Int32) by decide)]
          generalize hM5 : upI M4 53 15 (iI ((q + 3 + 1 : Nat) : Int)) = M5
          have f5 : frR M M5 := by rw [← hM5]; exact f4.tr (frR.up (by omega))
          have s5 : M5.1 53 15 = iI ((q + 4 : Nat) : Int) := by rw [← hM5, upI_at, if_pos rfl]
          have v5 : M5.1 53 16 = iI ((f0 : Int) + ((tc q : Int) - 48)) := by rw [← hM5, upI_at, if_neg (by decide)]; exact v4
          have w5 : M5.1 53 17 = iI ((tc (q + 2) : Int) - 48) := by rw [← hM5, upI_at, if_neg (by decide)]; exact w4
          by_cases c5 : q + 4 < tl ∧ 50 ≤ tc (q + 4) ∧ tc (q + 4) ≤ 51
          · have d5 := digit_y (h.fr f5) (lo := 2) (hi := 3) s5 c5.1 (by omega) (by omega) (by omega)
            have d5' : F_X4_digit (2 : Int32) (3 : Int32) M5 = _ := d5
            have b5 : bh 5 (tc (q + 4)) = 11 := by rw [bh5, if_pos c5.2]
            rw [d5', ob2_s, if_neg (show ¬ iI 1 = (0 : Int32) by decide)]
            left
            refine ⟨_, rfl, f5.tr ((frR.up (by omega)).tr (frR.up (by omega))), by rw [upI_at, if_pos rfl], ?_, c1.2, c3.2, c5.2, ?_, ?_, ?_⟩
            · exact rok_s c1.1 b1 (by decide) (by omega) (rok_s c2.1 b2 (by decide) (by omega) (rok_s c3.1 b3 (by decide) (show tc (q + 2) ≠ 59 by omega) (rok_s c4.1 b4 (by decide) (show tc (q + 3) ≠ 59 by omega) (rok_s c5.1 b5 (by decide) (show tc (q + 4) ≠ 59 by omega) (rok_11 (by omega))))))
            · rw [upI_at, if_neg (by decide), upI_at, if_neg (by decide)]; exact v5
            · rw [upI_at, if_neg (by decide), upI_at, if_neg (by decide)]; exact w5
            · rw [upI_at, if_neg (by decide), upI_at, if_pos rfl]
          · have d5 := digit_n (h.fr f5) (lo := 2) (hi := 3) s5 (by omega) (by omega) (by omega) (by omega)
            have d5' : F_X4_digit (2 : Int32) (3 : Int32) M5 = _ := d5
            rw [d5', ob2_s, if_pos (show iI 0 = (0 : Int32) from rfl)]
            right
            refine ⟨_, q + 4, rfl, f5.tr ((frR.up (by omega)).tr (frR.up (by omega))), by rw [upI_at, if_pos rfl], ?_⟩
            exact bad_s c1.1 b1 (by decide) (bad_s c2.1 b2 (by decide) (bad_s c3.1 b3 (by decide) (bad_s c4.1 b4 (by decide) (show Bad tl tc 5 (q + 4) (q + 4) from bad_at (by omega) (nc (by omega)) (fun hl => by rw [bh5, if_neg (by omega)])))))
        · have d4 := goesOn_n (h.fr f4) (a := 42) s4 (by omega) (by omega) (by omega)
          have d4' : F_X4_goesOn (42 : Int32) M4 = _ := d4
          rw [d4', ob2_s, if_pos (show iI 0 = (0 : Int32) from rfl)]
          right
          refine ⟨_, q + 3, rfl, f4.tr (frR.up (by omega)), by rw [upI_at, if_pos rfl], ?_⟩
          exact bad_s c1.1 b1 (by decide) (bad_s c2.1 b2 (by decide) (bad_s c3.1 b3 (by decide) (show Bad tl tc 4 (q + 3) (q + 3) from bad_at (by omega) (nc (by omega)) (fun hl => by rw [bh4, if_neg (by omega)]))))
      · have d3 := digit_n (h.fr f3) (lo := 0) (hi := 3) s3 (by omega) (by omega) (by omega) (by omega)
        have d3' : F_X4_digit (0 : Int32) (3 : Int32) M3 = _ := d3
        rw [d3', ob2_s, if_pos (show iI 0 = (0 : Int32) from rfl)]
        right
        refine ⟨_, q + 2, rfl, f3.tr ((frR.up (by omega)).tr (frR.up (by omega))), by rw [upI_at, if_pos rfl], ?_⟩
        exact bad_s c1.1 b1 (by decide) (bad_s c2.1 b2 (by decide) (show Bad tl tc 3 (q + 2) (q + 2) from bad_at (by omega) (nc (by omega)) (fun hl => by rw [bh3, if_neg (by omega)])))
    · have d2 := goesOn_n (h.fr f2) (a := 46) s2 (by omega) (by omega) (by omega)
      have d2' : F_X4_goesOn (46 : Int32) M2 = _ := d2
      rw [d2', ob2_s, if_pos (show iI 0 = (0 : Int32) from rfl)]
      right
      refine ⟨_, q + 1, rfl, f2.tr (frR.up (by omega)), by rw [upI_at, if_pos rfl], ?_⟩
      exact bad_s c1.1 b1 (by decide) (bad_at (by omega) (nc (by omega)) (fun hl => by rw [bh2, if_neg (by omega)]))
  · have d1 := digit_n h (lo := 0) (hi := 4) hp hq (by omega) (by omega) (by omega)
    have d1' : F_X4_digit (0 : Int32) (4 : Int32) M = _ := d1
    rw [d1', ob2_s, if_pos (show iI 0 = (0 : Int32) from rfl)]
    right
    refine ⟨_, q, rfl, (frR.up (by omega)).tr (frR.up (by omega)), by rw [upI_at, if_pos rfl], ?_⟩
    exact bad_at hq (nc (by omega)) (fun hl => by rw [bh1, if_neg (by omega)])
theorem cell_I {M : Wd} (h : Tx tl tc M) {q : Nat} (hq : q ≤ tl) (hp : M.1 53 15 = iI (q : Int)) :
    (∃ N q' t v, F_X4_cell M = some (1, N) ∧ frR M N ∧ N.1 53 15 = iI (q' : Nat) ∧ ROK tl tc 8 q q' t ∧ N.1 53 16 = iI v ∧ (0 ≤ v ∧ v ≤ 24) ∧ (48 ≤ tc q ∧ tc q ≤ 57) ∧ ((q' = q + 1 ∧ v = (tc q : Int) - 48) ∨ (q' = q + 2 ∧ v = 10 * ((tc q : Int) - 48) + ((tc (q + 1) : Int) - 48) ∧ 48 ≤ tc (q + 1) ∧ tc (q + 1) ≤ 57 ∧ q + 1 < tl))) ∨
    (∃ N e, F_X4_cell M = some (0, N) ∧ frR M N ∧ N.1 53 15 = iI (e : Nat) ∧ Bad tl tc 8 q e) := by
  have h60 := h.1
  unfold F_X4_cell
  by_cases c1 : q < tl ∧ 48 ≤ tc q ∧ tc q ≤ 57
  · left
    have d1 := digit_y h (lo := 0) (hi := 9) hp c1.1 (by omega) (by omega) (by omega)
    have d1' : F_X4_digit (0 : Int32) (9 : Int32) M = _ := d1
    rw [d1', ob2_s, if_neg (show ¬ iI 1 = (0 : Int32) by decide), upI_at (c := 53) (j := 18), if_neg (show ¬ 18 = 15 by decide), upI_at (c := 53) (j := 18), if_pos rfl, show (1 : Int32) = iI 1 from rfl, show (2 : Int32) = iI 2 from rfl, if_eq (by omega) (by omega) (by omega) (by omega), if_eq (by omega) (by omega) (by omega) (by omega)]
    generalize hM2 : upI (upI (upI M 53 18 (iI ((tc q : Int) - 48))) 53 15 (iI ((q + 1 : Nat) : Int))) 53 16 (iI ((tc q : Int) - 48)) = M2
    have f2 : frR M M2 := by rw [← hM2]; exact ((frR.up (by omega)).tr (frR.up (by omega))).tr (frR.up (by omega))
    have s2 : M2.1 53 15 = iI ((q + 1 : Nat) : Int) := by rw [← hM2, upI_at, if_neg (by decide), upI_at, if_pos rfl]
    have v2 : M2.1 53 16 = iI ((tc q : Int) - 48) := by rw [← hM2, upI_at, if_pos rfl]
    by_cases e1 : tc q = 49
    · have b1 : bh 8 (tc q) = 9 := by rw [bh8, if_pos e1]
      rw [if_pos (by omega)]
      by_cases c2 : q + 1 < tl ∧ 48 ≤ tc (q + 1) ∧ tc (q + 1) ≤ 57
      · have d2 := digit_y (h.fr f2) (lo := 0) (hi := 9) s2 c2.1 (by omega) (by omega) (by omega)
        have d2' : F_X4_digit (0 : Int32) (9 : Int32) M2 = _ := d2
        have b2 : bh 9 (tc (q + 1)) = 11 := by rw [bh9, if_pos c2.2]
        rw [d2', ob2_s, if_neg (show ¬ iI 1 = (0 : Int32) by decide), ob_s, upI_at (c := 53) (j := 16), if_neg (show ¬ 16 = 15 by decide), upI_at (c := 53) (j := 16), if_neg (show ¬ 16 = 18 by decide), v2, upI_at (c := 53) (j := 18), if_neg (show ¬ 18 = 15 by decide), upI_at (c := 53) (j := 18), if_pos rfl, show (10 : Int32) = iI 10 from rfl, iI_mul, iI_add]
        refine ⟨_, q + 2, 11, _, rfl, f2.tr (((frR.up (by omega)).tr (frR.up (by omega))).tr (frR.up (by omega))), ?_, rok_s c1.1 b1 (by decide) (by omega) (rok_s c2.1 b2 (by decide) (by omega) (rok_11 (by omega))), by rw [upI_at, if_pos rfl], by omega, c1.2, Or.inr ⟨rfl, rfl, c2.2.1, c2.2.2, c2.1⟩⟩
        rw [upI_at, if_neg (by decide), upI_at, if_pos rfl]
      · have d2 := digit_n (h.fr f2) (lo := 0) (hi := 9) s2 (by omega) (by omega) (by omega) (by omega)
        have d2' : F_X4_digit (0 : Int32) (9 : Int32) M2 = _ := d2
        rw [d2', ob2_s, if_pos (show iI 0 = (0 : Int32) from rfl), upI_at (c := 53) (j := 16), if_neg (show ¬ 16 = 15 by decide), upI_at (c := 53) (j := 16), if_neg (show ¬ 16 = 18 by decide), v2, if_eq (by omega) (by omega) (by omega) (by omega), if_neg (by omega), ob_s]
        refine ⟨_, q + 1, 9, (tc q : Int) - 48, rfl, f2.tr ((frR.up (by omega)).tr (frR.up (by omega))), by rw [upI_at, if_pos rfl], rok_s c1.1 b1 (by decide) (by omega) (rok_0 (by omega) (Or.inr (Or.inl rfl)) (fun hl => by rw [bh9, if_neg (by omega)])), ?_, by omega, c1.2, Or.inl ⟨rfl, rfl⟩⟩
        rw [upI_at, if_neg (by decide), upI_at, if_neg (by decide)]; exact v2
    · rw [if_neg (by omega)]
      by_cases e2 : tc q = 50
      · have b1 : bh 8 (tc q) = 10 := by rw [bh8, if_neg e1, if_pos e2]
        rw [if_pos (by omega)]
        by_cases c2 : q + 1 < tl ∧ 48 ≤ tc (q + 1) ∧ tc (q + 1) ≤ 52
        · have d2 := digit_y (h.fr f2) (lo := 0) (hi := 4) s2 c2.1 (by omega) (by omega) (by omega)
          have d2' : F_X4_digit (0 : Int32) (4 : Int32) M2 = _ := d2
          have b2 : bh 10 (tc (q + 1)) = 11 := by rw [bh10, if_pos c2.2]
          rw [d2', ob2_s, if_neg (show ¬ iI 1 = (0 : Int32) by decide), ob_s, upI_at (c := 53) (j := 16), if_neg (show ¬ 16 = 15 by decide), upI_at (c := 53) (j := 16), if_neg (show ¬ 16 = 18 by decide), v2, upI_at (c := 53) (j := 18), if_neg (show ¬ 18 = 15 by decide), upI_at (c := 53) (j := 18), if_pos rfl, show (10 : Int32) = iI 10 from rfl, iI_mul, iI_add]
          refine ⟨_, q + 2, 11, _, rfl, f2.tr (((frR.up (by omega)).tr (frR.up (by omega))).tr (frR.up (by omega))), ?_, rok_s c1.1 b1 (by decide) (by omega) (rok_s c2.1 b2 (by decide) (by omega) (rok_11 (by omega))), by rw [upI_at, if_pos rfl], by omega, c1.2, Or.inr ⟨rfl, rfl, c2.2.1, by omega, c2.1⟩⟩
          rw [upI_at, if_neg (by decide), upI_at, if_pos rfl]
        · have d2 := digit_n (h.fr f2) (lo := 0) (hi := 4) s2 (by omega) (by omega) (by omega) (by omega)
          have d2' : F_X4_digit (0 : Int32) (4 : Int32) M2 = _ := d2
          rw [d2', ob2_s, if_pos (show iI 0 = (0 : Int32) from rfl), ob_s]
          refine ⟨_, q + 1, 10, (tc q : Int) - 48, rfl, f2.tr ((frR.up (by omega)).tr (frR.up (by omega))), by rw [upI_at, if_pos rfl], rok_s c1.1 b1 (by decide) (by omega) (rok_0 (by omega) (Or.inr (Or.inr rfl)) (fun hl => by rw [bh10, if_neg (by omega)])), ?_, by omega, c1.2, Or.inl ⟨rfl, rfl⟩⟩
          rw [upI_at, if_neg (by decide), upI_at, if_neg (by decide)]; exact v2
      · have b1 : bh 8 (tc q) = 11 := by rw [bh8, if_neg e1, if_neg e2, if_pos c1.2]
        rw [if_neg (by omega), ob_s]
        exact ⟨M2, q + 1, 11, (tc q : Int) - 48, rfl, f2, s2, rok_s c1.1 b1 (by decide) (by omega) (rok_11 (by omega)), v2, by omega, c1.2, Or.inl ⟨rfl, rfl⟩⟩
  · have d1 := digit_n h (lo := 0) (hi := 9) hp hq (by omega) (by omega) (by omega)
    have d1' : F_X4_digit (0 : Int32) (9 : Int32) M = _ := d1
    rw [d1', ob2_s, if_pos (show iI 0 = (0 : Int32) from rfl)]
    right
    refine ⟨_, q, rfl, (frR.up (by omega)).tr (frR.up (by omega)), by rw [upI_at, if_pos rfl], ?_⟩
    exact bad_at hq (nc (by omega)) (fun hl => by rw [bh8, if_neg (by omega), if_neg (by omega), if_neg (by omega)])
theorem change_I {M : Wd} (h : Tx tl tc M) {q : Nat} (hq : q ≤ tl) (hp : M.1 53 15 = iI (q : Int)) :
    (∃ N, F_X4_change M = some (1, N) ∧ frR M N ∧ N.1 53 15 = iI ((q + 2 : Nat) : Int) ∧ ROK tl tc 6 q (q + 2) 11 ∧ N.1 53 16 = M.1 53 16 ∧ (tc q = 43 ∨ tc q = 45) ∧ (49 ≤ tc (q + 1) ∧ tc (q + 1) ≤ 51) ∧ N.1 53 17 = iI ((if tc q = 43 then 1 else -1) * ((tc (q + 1) : Int) - 48))) ∨
    (∃ N e, F_X4_change M = some (0, N) ∧ frR M N ∧ N.1 53 15 = iI (e : Nat) ∧ Bad tl tc 6 q e) := by
  have h60 := h.1
  unfold F_X4_change
  have key : ∀ (M6 : Wd) (sg : Int), (sg = 1 ∧ tc q = 43 ∨ sg = -1 ∧ tc q = 45) → q < tl → frR M M6 → M6.1 53 15 = iI ((q + 1 : Nat) : Int) → M6.1 53 16 = M.1 53 16 →
      (∃ N, (if iI sg = 0 then some ((0 : Int32), (upI M6 53 17 (iI sg))) else obind2 (F_X4_digit (1 : Int32) (3 : Int32) (upI M6 53 17 (iI sg))) fun v15 M16 => if v15 = 0 then some ((0 : Int32), M16) else some ((1 : Int32), (upI M16 53 17 ((M16.1 53 17) * (M16.1 53 18))))) = some (1, N) ∧ frR M N ∧ N.1 53 15 = iI ((q + 2 : Nat) : Int) ∧ ROK tl tc 6 q (q + 2) 11 ∧ N.1 53 16 = M.1 53 16 ∧ (tc q = 43 ∨ tc q = 45) ∧ (49 ≤ tc (q + 1) ∧ tc (q + 1) ≤ 51) ∧ N.1 53 17 = iI ((if tc q = 43 then 1 else -1) * ((tc (q + 1) : Int) - 48))) ∨
      (∃ N e, (if iI sg = 0 then some ((0 : Int32), (upI M6 53 17 (iI sg))) else obind2 (F_X4_digit (1 : Int32) (3 : Int32) (upI M6 53 17 (iI sg))) fun v15 M16 => if v15 = 0 then some ((0 : Int32), M16) else some ((1 : Int32), (upI M16 53 17 ((M16.1 53 17) * (M16.1 53 18))))) = some (0, N) ∧ frR M N ∧ N.1 53 15 = iI (e : Nat) ∧ Bad tl tc 6 q e) := by
    intro M6 sg hsg hlt f6 s6 v6
    have b1 : bh 6 (tc q) = 7 := by rw [bh6, if_pos (by omega)]
    have f7 : frR M (upI M6 53 17 (iI sg)) := f6.tr (frR.up (by omega))
    have s7 : (upI M6 53 17 (iI sg)).1 53 15 = iI ((q + 1 : Nat) : Int) := by rw [upI_at, if_neg (by decide)]; exact s6
    rw [iL_0, if_eq (by omega) (by omega) (by omega) (by omega), if_neg (by omega)]
    by_cases c2 : q + 1 < tl ∧ 49 ≤ tc (q + 1) ∧ tc (q + 1) ≤ 51
    · have d2 := digit_y (h.fr f7) (lo := 1) (hi := 3) s7 c2.1 (by omega) (by omega) (by omega)
      have d2' : F_X4_digit (1 : Int32) (3 : Int32) (upI M6 53 17 (iI sg)) = _ := d2
      have b2 : bh 7 (tc (q + 1)) = 11 := by rw [bh7, if_pos c2.2]
      rw [d2', ob2_s, if_neg (show ¬ iI 1 = iI 0 by decide), upI_at (c := 53) (j := 17), if_neg (show ¬ 17 = 15 by decide), upI_at (c := 53) (j := 17), if_neg (show ¬ 17 = 18 by decide), upI_at (c := 53) (j := 17), if_pos rfl, upI_at (c := 53) (j := 18), if_neg (show ¬ 18 = 15 by decide), upI_at (c := 53) (j := 18), if_pos rfl, iI_mul]
      left
      refine ⟨_, rfl, f7.tr (((frR.up (by omega)).tr (frR.up (by omega))).tr (frR.up (by omega))), ?_, rok_s hlt b1 (by decide) (by omega) (rok_s c2.1 b2 (by decide) (by omega) (rok_11 (by omega))), ?_, by omega, c2.2, ?_⟩
      · rw [upI_at, if_neg (by decide), upI_at, if_pos rfl]
      · rw [upI_at, if_neg (by decide), upI_at, if_neg (by decide), upI_at, if_neg (by decide), upI_at, if_neg (by decide)]; exact v6
      · rw [upI_at, if_pos rfl]
        rcases hsg with ⟨r1, r2⟩ | ⟨r1, r2⟩
        · rw [r1, if_pos r2]
        · rw [r1, if_neg (by omega)]
    · have d2 := digit_n (h.fr f7) (lo := 1) (hi := 3) s7 (by omega) (by omega) (by omega) (by omega)
      have d2' : F_X4_digit (1 : Int32) (3 : Int32) (upI M6 53 17 (iI sg)) = _ := d2
      rw [d2', ob2_s, if_pos rfl]
      right
      refine ⟨_, q + 1, rfl, f7.tr ((frR.up (by omega)).tr (frR.up (by omega))), by rw [upI_at, if_pos rfl], ?_⟩
      exact bad_s hlt b1 (by decide) (bad_at (by omega) (nc (by omega)) (fun hl => by rw [bh7, if_neg (by omega)]))
  by_cases c1 : q < tl ∧ tc q = 43
  · have d1 := goesOn_y h hp c1.1 c1.2
    have d1' : F_X4_goesOn (43 : Int32) M = _ := d1
    rw [d1', ob2_s, if_neg (show ¬ iI 1 = (0 : Int32) by decide), ob2_s]
    exact key _ 1 (Or.inl ⟨rfl, c1.2⟩) c1.1 (frR.up (by omega)) (by rw [upI_at, if_pos rfl]) (by rw [upI_at, if_neg (by decide)])
  · have d1 := goesOn_n h (a := 43) hp hq (by omega) (by omega)
    have d1' : F_X4_goesOn (43 : Int32) M = _ := d1
    have f2 : frR M (upI M 53 15 (iI (q : Int))) := frR.up (by omega)
    rw [d1', ob2_s, if_pos (show iI 0 = (0 : Int32) from rfl)]
    by_cases c2 : q < tl ∧ tc q = 45
    · have d2 := goesOn_y (h.fr f2) (by rw [upI_at, if_pos rfl]) c2.1 c2.2
      have d2' : F_X4_goesOn (45 : Int32) (upI M 53 15 (iI (q : Int))) = _ := d2
      rw [d2', ob2_s, if_neg (show ¬ iI 1 = (0 : Int32) by decide), ob2_s]
      exact key _ (-1) (Or.inr ⟨rfl, c2.2⟩) c2.1 (f2.tr (frR.up (by omega))) (by rw [upI_at, if_pos rfl]) (by rw [upI_at, if_neg (by decide), upI_at, if_neg (by decide)])
    · have d2 := goesOn_n (h.fr f2) (a := 45) (by rw [upI_at, if_pos rfl]) hq (by omega) (by omega)
      have d2' : F_X4_goesOn (45 : Int32) (upI M 53 15 (iI (q : Int))) = _ := d2
      rw [d2', ob2_s, if_pos (show iI 0 = (0 : Int32) from rfl), ob2_s, if_pos rfl]
      right
      refine ⟨_, q, rfl, (f2.tr (frR.up (by omega))).tr (frR.up (by omega)), ?_, bad_at hq (nc (by omega)) (fun hl => by rw [bh6, if_neg (by omega)])⟩
      rw [upI_at, if_neg (by decide), upI_at, if_pos rfl]
/-- what a part says, in the reader's fields -/
def VL (tl : Nat) (tc : Nat → Nat) (N : Wd) (p p' : Nat) : Prop :=
  ((tc p = 104 ∨ tc p = 118) → p + 6 = p' ∧ (48 ≤ tc (p + 1) ∧ tc (p + 1) ≤ 52) ∧ (48 ≤ tc (p + 3) ∧ tc (p + 3) ≤ 51) ∧ (50 ≤ tc (p + 5) ∧ tc (p + 5) ≤ 51) ∧ N.1 53 16 = iI ((if tc p = 104 then 0 else 5) + ((tc (p + 1) : Int) - 48)) ∧ N.1 53 17 = iI ((tc (p + 3) : Int) - 48) ∧ N.1 53 18 = iI ((tc (p + 5) : Int) - 48)) ∧
  (tc p = 119 → ∃ v, N.1 53 16 = iI v ∧ (0 ≤ v ∧ v ≤ 24) ∧ p + 1 < tl ∧ (48 ≤ tc (p + 1) ∧ tc (p + 1) ≤ 57) ∧ ((p' = p + 2 ∧ v = (tc (p + 1) : Int) - 48) ∨ (p' = p + 3 ∧ v = 10 * ((tc (p + 1) : Int) - 48) + ((tc (p + 2) : Int) - 48) ∧ 48 ≤ tc (p + 2) ∧ tc (p + 2) ≤ 57 ∧ p + 2 < tl))) ∧
  ((tc p = 98 ∨ tc p = 100) → p + 1 = p') ∧
  (48 ≤ tc p → tc p ≤ 53 → p + 3 = p' ∧ (tc (p + 1) = 43 ∨ tc (p + 1) = 45) ∧ (49 ≤ tc (p + 2) ∧ tc (p + 2) ≤ 51) ∧ N.1 53 16 = iI ((tc p : Int) - 48) ∧ N.1 53 17 = iI ((if tc (p + 1) = 43 then 1 else -1) * ((tc (p + 2) : Int) - 48)))
theorem bh0 (c : Nat) : bh 0 c = if c = 104 ∨ c = 118 then 1 else if c = 119 then 8 else if c = 98 ∨ c = 100 then 11 else if 48 ≤ c ∧ c ≤ 53 then 6 else 12 := rfl
theorem isSign_I {c : Nat} (hc : c < 127) : F_X4_isSign (iI (c : Int)) = if bh 0 c ≠ 12 then iI 1 else iI 0 := by
  have : ∀ c, c < 127 → F_X4_isSign (iI (c : Nat)) = if bh 0 c ≠ 12 then iI 1 else iI 0 := by decide +kernel
  exact this c hc
theorem part_I {M : Wd} (h : Tx tl tc M) {p : Nat} (hlt : p < tl) (hp : M.1 53 15 = iI ((p + 1 : Nat) : Int)) (hs : bh 0 (tc p) ≠ 12) :
    (∃ N p' t, F_X4_part (iI (tc p : Int)) M = some (1, N) ∧ frR M N ∧ N.1 53 15 = iI (p' : Nat) ∧ ROK tl tc (bh 0 (tc p)) (p + 1) p' t ∧ VL tl tc N p p') ∨
    (∃ N e, F_X4_part (iI (tc p : Int)) M = some (0, N) ∧ frR M N ∧ N.1 53 15 = iI (e : Nat) ∧ Bad tl tc (bh 0 (tc p)) (p + 1) e) := by
  have h60 := h.1
  have hcc := h.2.1 p hlt
  unfold F_X4_part
  rw [show (98 : Int32) = iI 98 from rfl, show (100 : Int32) = iI 100 from rfl, show (104 : Int32) = iI 104 from rfl, show (118 : Int32) = iI 118 from rfl, show (119 : Int32) = iI 119 from rfl, if_eq (by omega) (by omega) (by omega) (by omega), if_eq (by omega) (by omega) (by omega) (by omega), if_eq (by omega) (by omega) (by omega) (by omega), if_eq (by omega) (by omega) (by omega) (by omega), if_eq (by omega) (by omega) (by omega) (by omega)]
  by_cases e1 : tc p = 98
  · have b : bh 0 (tc p) = 11 := by rw [e1]; rfl
    rw [if_pos (by omega), b]
    exact Or.inl ⟨M, p + 1, 11, rfl, frR.rf M, hp, rok_11 (by omega), fun z => by omega, fun z => by omega, fun _ => rfl, fun z1 z2 => by omega⟩
  · rw [if_neg (by omega)]
    by_cases e2 : tc p = 100
    · have b : bh 0 (tc p) = 11 := by rw [e2]; rfl
      rw [if_pos (by omega), b]
      exact Or.inl ⟨M, p + 1, 11, rfl, frR.rf M, hp, rok_11 (by omega), fun z => by omega, fun z => by omega, fun _ => rfl, fun z1 z2 => by omega⟩
    · rw [if_neg (by omega)]
      by_cases e3 : tc p = 104
      · have b : bh 0 (tc p) = 1 := by rw [e3]; rfl
        rw [if_pos (by omega), b]
        rcases car_I h (f0 := 0) (by omega) (show p + 1 ≤ tl by omega) hp with ⟨N, n1, n2, n3, n4, n5, n6, n7, n8, n9, n10⟩ | ⟨N, e, n1, n2, n3, n4⟩
        · have n1' : F_X4_car (0 : Int32) M = some (1, N) := n1
          rw [n1', ob2_s]
          refine Or.inl ⟨N, p + 6, 11, rfl, n2, n3, n4, fun _ => ⟨rfl, n5, n6, n7, ?_, n9, n10⟩, fun z => by omega, fun z => by omega, fun z1 z2 => by omega⟩
          rw [if_pos e3]; exact n8
        · have n1' : F_X4_car (0 : Int32) M = some (0, N) := n1
          rw [n1', ob2_s]
          exact Or.inr ⟨N, e, rfl, n2, n3, n4⟩
      · rw [if_neg (by omega)]
        by_cases e4 : tc p = 118
        · have b : bh 0 (tc p) = 1 := by rw [e4]; rfl
          rw [if_pos (by omega), b]
          rcases car_I h (f0 := 5) (by omega) (show p + 1 ≤ tl by omega) hp with ⟨N, n1, n2, n3, n4, n5, n6, n7, n8, n9, n10⟩ | ⟨N, e, n1, n2, n3, n4⟩
          · have n1' : F_X4_car (5 : Int32) M = some (1, N) := n1
            rw [n1', ob2_s]
            refine Or.inl ⟨N, p + 6, 11, rfl, n2, n3, n4, fun _ => ⟨rfl, n5, n6, n7, ?_, n9, n10⟩, fun z => by omega, fun z => by omega, fun z1 z2 => by omega⟩
            rw [if_neg e3]; exact n8
          · have n1' : F_X4_car (5 : Int32) M = some (0, N) := n1
            rw [n1', ob2_s]
            exact Or.inr ⟨N, e, rfl, n2, n3, n4⟩
        · rw [if_neg (by omega)]
          by_cases e5 : tc p = 119
          · have b : bh 0 (tc p) = 8 := by rw [e5]; rfl
            rw [if_pos (by omega), b]
            rcases cell_I h (show p + 1 ≤ tl by omega) hp with ⟨N, q', t, v, n1, n2, n3, n4, n5, n5b, n6, n7⟩ | ⟨N, e, n1, n2, n3, n4⟩
            · rw [n1, ob2_s]
              have hlt2 : p + 1 < tl := by
                have := n4.2.1
                rcases n7 with n7 | n7 <;> omega
              refine Or.inl ⟨N, q', t, rfl, n2, n3, n4, fun z => by omega, fun _ => ⟨v, n5, n5b, hlt2, n6, ?_⟩, fun z => by omega, fun z1 z2 => by omega⟩
              rcases n7 with n7 | n7
              · exact Or.inl ⟨by omega, n7.2⟩
              · exact Or.inr ⟨by omega, n7.2.1, n7.2.2.1, n7.2.2.2.1, by omega⟩
            · rw [n1, ob2_s]
              exact Or.inr ⟨N, e, rfl, n2, n3, n4⟩
          · have e6 : 48 ≤ tc p ∧ tc p ≤ 53 := by
              rw [bh0, if_neg (by omega), if_neg e5, if_neg (by omega)] at hs
              exact Classical.byContradiction fun z => hs (if_neg z)
            have b : bh 0 (tc p) = 6 := by rw [bh0, if_neg (by omega), if_neg e5, if_neg (by omega), if_pos e6]
            rw [if_neg (by omega), b, show (48 : Int32) = iI 48 from rfl, iI_sub]
            have f1 : frR M (upI M 53 16 (iI ((tc p : Int) - 48))) := frR.up (by omega)
            rcases change_I (h.fr f1) (show p + 1 ≤ tl by omega) (by rw [upI_at, if_neg (by decide)]; exact hp) with ⟨N, n1, n2, n3, n4, n5, n6, n7, n8⟩ | ⟨N, e, n1, n2, n3, n4⟩
            · rw [n1, ob2_s]
              refine Or.inl ⟨N, p + 3, 11, rfl, f1.tr n2, n3, n4, fun z => by omega, fun z => by omega, fun z => by omega, fun _ _ => ⟨rfl, n6, n7, ?_, n8⟩⟩
              rw [n5, upI_at, if_pos rfl]
            · rw [n1, ob2_s]
              exact Or.inr ⟨N, e, rfl, f1.tr n2, n3, n4⟩
end RD
