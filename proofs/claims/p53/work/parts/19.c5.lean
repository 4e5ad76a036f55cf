/-! ===== a slide that is taken back, and undone ===== -/
section UN
variable {S : Wst}
theorem sav_top (h5 : sC S ≤ 5) : sV (savS S) (sC (savS S) - 1) = sN S := by
  unfold savS
  by_cases e : sC S < 5
  · rw [if_pos e]
    show (if sC S + 1 - 1 = sC S then sN S else _) = sN S
    rw [if_pos (by omega)]
  · rw [if_neg e]
    rfl
theorem sav_second (h1 : 1 ≤ sC S) (h5 : sC S ≤ 5) : sV (savS S) (sC (savS S) - 2) = sV S (sC S - 1) := by
  unfold savS
  by_cases e : sC S < 5
  · rw [if_pos e]
    show (if sC S + 1 - 2 = sC S then sN S else sV S (sC S + 1 - 2)) = _
    rw [if_neg (by omega), show sC S + 1 - 2 = sC S - 1 by omega]
  · rw [if_neg e]
    show sV S (3 + 1) = _
    rw [show sC S - 1 = 3 + 1 by omega]
theorem sav_pos (h5 : sC S ≤ 5) : 1 ≤ sC (savS S) := by
  rw [savS_C]; split <;> omega
theorem sav_two (h1 : 1 ≤ sC S) (h5 : sC S ≤ 5) : 2 ≤ sC (savS S) := by
  rw [savS_C]; split <;> omega
theorem thr_0 {z : Int} (h0 : 0 ≤ z) (h1 : z < 1000) : F_L_thrown (iI z) = 0 := by
  unfold F_L_thrown
  rw [show (-9999001 : Int32) = iI (-9999001) from rfl, show (-9999002 : Int32) = iI (-9999002) from rfl, show (-9999003 : Int32) = iI (-9999003) from rfl, if_eq (by omega) (by omega) (by omega) (by omega), if_neg (by omega), if_eq (by omega) (by omega) (by omega) (by omega), if_neg (by omega), if_eq (by omega) (by omega) (by omega) (by omega), if_neg (by omega)]
theorem undo_step (hW : WI S) (e : 0 < sC S) {b i m : Nat} (hi : i < b) (hb : b < 100) {K : Int32 → Wd2 → Option (Int32 × Wd2)} {M : Wd2} (h1 : CI S M.1) (h2 : CI S M.2) : ∃ M' : Wd2, F_L_undoes_L5 (iI (b : Int)) K (m + 1) 1 (iI (i : Int)) M = F_L_undoes_L5 (iI (b : Int)) K m 1 (iI ((i + 1 : Nat) : Int)) M' ∧ CI (oUndo S) M'.1 ∧ CI (oUndo S) M'.2 := by
  have hc5 := hW.c5
  obtain ⟨M1, a1, a2⟩ := undo_yn hW e M.1 h1
  obtain ⟨M2, b1, b2⟩ := undo_yn hW e M.2 h2
  refine ⟨(M1, M2), ?_, a2, b2⟩
  rw [F_L_undoes_L5]
  rw [if_le (by omega) (by omega) (by omega) (by omega), if_neg (by omega), if_neg (show ¬ (1 : Int32) = 0 by decide), cnn_8, cnn_8, a1, ob2_s, b1, ob2_s, thr_0 (by omega) (by omega), if_pos rfl, if_pos rfl, ob2_s, s1_I, bnd_v]
theorem undo_end {b m : Nat} (hb : b < 100) {K : Int32 → Wd2 → Option (Int32 × Wd2)} {M : Wd2} : F_L_undoes_L5 (iI (b : Int)) K (m + 1) 1 (iI (b : Int)) M = K 1 M := by
  rw [F_L_undoes_L5]
  rw [if_le (by omega) (by omega) (by omega) (by omega), if_pos (by omega)]
theorem undoes_1 (hW : WI S) (e : 0 < sC S) {M : Wd2} (h1 : CI S M.1) (h2 : CI S M.2) : OK2 (oUndo S) (F_L_undoes (1 : Int32) M) := by
  obtain ⟨q, hq⟩ := fuelS 1 (by decide)
  obtain ⟨M', m1, m2, m3⟩ := undo_step hW e (b := 1) (i := 0) (m := q + 1) (by decide) (by decide) (K := fun v20 M21 => chB v20 <| some (v20, M21)) h1 h2
  refine ⟨M', ?_, m2, m3⟩
  unfold F_L_undoes
  rw [hq]
  refine Eq.trans m1 (Eq.trans (undo_end (b := 1) (m := q) (by decide)) ?_)
  rfl
theorem undoes_2 (hW : WI S) (e : 1 < sC S) {M : Wd2} (h1 : CI S M.1) (h2 : CI S M.2) : OK2 (oUndo (oUndo S)) (F_L_undoes (2 : Int32) M) := by
  obtain ⟨q, hq⟩ := fuelS 2 (by decide)
  obtain ⟨M1, m1, m2, m3⟩ := undo_step hW (by omega) (b := 2) (i := 0) (m := q + 1 + 1) (by decide) (by decide) (K := fun v20 M21 => chB v20 <| some (v20, M21)) h1 h2
  obtain ⟨M', k1, k2, k3⟩ := undo_step (undo_WI hW (by omega)) (show 0 < sC S - 1 by omega) (b := 2) (i := 1) (m := q + 1) (by decide) (by decide) (K := fun v20 M21 => chB v20 <| some (v20, M21)) m2 m3
  refine ⟨M', ?_, k2, k3⟩
  unfold F_L_undoes
  rw [hq]
  refine Eq.trans m1 (Eq.trans k1 (Eq.trans (undo_end (b := 2) (m := q) (by decide)) ?_))
  rfl
/-! lemmas for two worlds -/
theorem ok2_b {α : Type} {F : Option (α × Wd)} {v : α} {M1 : Wd} {g : α → Wd → Option (Int32 × Wd2)} (h : F = some (v, M1)) (k : OK2 S (g v M1)) : OK2 S (obind2 F g) := by rw [h]; exact k
theorem ok2_d {α : Type} {F : Wd → Option (α × Wd)} {S1 S' : Wst} {v : α} {M : Wd} {g : α → Wd → Option (Int32 × Wd2)} (h : Dt S1 F v S') (hC : CI S1 M) (k : ∀ M', CI S' M' → OK2 S (g v M')) : OK2 S (obind2 (F M) g) := by
  obtain ⟨M', m1, m2⟩ := h M hC
  exact ok2_b m1 (k M' m2)
theorem ok2_o {X : Option (Int32 × Wd2)} {S1 : Wst} {g : Int32 → Wd2 → Option (Int32 × Wd2)} (h : OK2 S1 X) (k : ∀ M' : Wd2, CI S1 M'.1 → CI S1 M'.2 → OK2 S (g 1 M')) : OK2 S (obind2 X g) := by
  obtain ⟨M', m1, m2, m3⟩ := h
  rw [m1]
  exact k M' m2 m3
theorem ok2_p {c : Prop} [Decidable c] {A B : Option (Int32 × Wd2)} (h : c) (k : OK2 S A) : OK2 S (if c then A else B) := by rw [if_pos h]; exact k
theorem ok2_n {c : Prop} [Decidable c] {A B : Option (Int32 × Wd2)} (h : ¬ c) (k : OK2 S B) : OK2 S (if c then A else B) := by rw [if_neg h]; exact k
theorem ok2_g {c : Prop} [Decidable c] {A : Option (Int32 × Wd2)} (h : c) (k : OK2 S A) : OK2 S (grd c A) := by rw [grd_t h]; exact k
theorem xN_of {T : Wst} (h : sN T = sN S) : xn T = xn S ∧ xw T = xw S ∧ xk T = xk S ∧ xL T = xL S ∧ xP T = xP S ∧ xG T = xG S := by
  refine ⟨?_, ?_, ?_, ?_, ?_, ?_⟩
  · show (sN T).1 = (sN S).1; rw [h]
  · show (sN T).2.1 = (sN S).2.1; rw [h]
  · show (sN T).2.2.1 = (sN S).2.2.1; rw [h]
  · show (sN T).2.2.2.2.1 = (sN S).2.2.2.2.1; rw [h]
  · show (sN T).2.2.2.2.2.1 = (sN S).2.2.2.2.2.1; rw [h]
  · show (sN T).2.2.2.2.2.2.1 = (sN S).2.2.2.2.2.2.1; rw [h]
theorem fuS_cg {G lc lc' : Nat → Nat} {lb lb' : Nat → Int} {k : Nat} (h : ∀ j, j < k → lc j = lc' j ∧ lb j = lb' j) : fuS G lc lb k = fuS G lc' lb' k := fb_sm_cong fun j hj => by rw [(h j hj).1, (h j hj).2]
theorem slides_ok (hW : WI S) (hL : LW S) {x : Nat} (hx : x < 2147483648) : ∃ S', WI S' ∧ LW S' ∧ ∀ M : Wd2, CI S M.1 → CI S M.2 → OK2 S' (F_L_slides (iI (x : Int)) M) := by
  have hw := hW.pk
  have hn := hw.n6
  have hk := hw.k60
  by_cases n0 : xn S = 0
  · refine ⟨S, hW, hL, fun M h1 h2 => ?_⟩
    unfold F_L_slides
    rw [lk_cars h1, n0]
    exact ok2_1 h1 h2
  have nn : ¬ iI (xn S : Int) = (0 : Int32) := nz (by omega) (by omega) (by omega)
  by_cases k0 : xk S = 60
  · refine ⟨S, hW, hL, fun M h1 h2 => ?_⟩
    unfold F_L_slides
    rw [lk_cars h1, if_neg nn, lk_logged h1, k0]
    exact ok2_1 h1 h2
  have hkk : ¬ iI (xk S : Int) = (60 : Int32) := by rw [show (60 : Int32) = iI 60 from rfl, iI_eq (by omega) (by omega) (by omega) (by omega)]; omega
  obtain ⟨i, hi⟩ : ∃ i, x % xn S = i := ⟨_, rfl⟩
  have hin : i < xn S := by rw [← hi]; exact Nat.mod_lt _ (by omega)
  obtain ⟨f, hf⟩ : ∃ f : Bool, f = decide (x / 8 % 2 = 0) := ⟨_, rfl⟩
  have e9 : (if iI ((x / 8 % 2 : Nat) : Int) = 0 then (1 : Int32) else (0 : Int32)) = if f = true then (1 : Int32) else (0 : Int32) := by
    by_cases e : x / 8 % 2 = 0
    · rw [e, if_pos (show iI ((0 : Nat) : Int) = 0 from rfl), if_pos (by rw [hf]; exact decide_eq_true e)]
    · rw [if_neg (nz (by omega) (by omega) (by omega)), if_neg (by rw [hf, decide_eq_false e]; decide)]
  have hx8 : x / 8 < 2147483648 := by omega
  have hx16 : x / 16 < 2147483648 := by omega
  have hr3 := rmm_3 hw hin f
  obtain ⟨r, hr⟩ : ∃ r, rmm (xw S) (xL S) (xG S) (xP S) (xn S) i f = r := ⟨_, rfl⟩
  have head : ∀ M : Wd2, CI S M.1 → F_L_slides (iI (x : Int)) M = _ := fun M h1 => by
    unfold F_L_slides
    rw [lk_cars h1, if_neg nn, lk_logged h1, if_neg hkk, grd_t nn, rem_I hx (by omega) (by omega), hi, bnd_v, div_8 hx, rem_2 hx8, e9, bnd_v, div_16 hx, rm_y h1 hW hin f, hr, ob2_s]
  by_cases r0 : r = 0
  · refine ⟨S, hW, hL, fun M h1 h2 => ?_⟩
    rw [head M h1]
    refine ok2_p (by rw [r0]; rfl) ?_
    have eb : (if (if f = true then (1 : Int32) else (0 : Int32)) = 0 then (-1 : Int32) else (1 : Int32)) = iI (sgn f) := rm_b f
    have hcs : ¬ canS (xw S) (xL S) (xG S) (xP S) (xn S) i (sgn f) = true := fun q => by
      unfold canS at q
      have q' := of_decide_eq_true q
      cases f with
      | true => rw [show decide (0 < sgn true) = true from rfl, hr, r0] at q'; exact absurd q' (by decide)
      | false => rw [show decide (0 < sgn false) = false from rfl, hr, r0] at q'; exact absurd q' (by decide)
    have hs3 : -3 ≤ sgn f ∧ sgn f ≤ 3 ∧ sgn f ≠ 0 := by cases f <;> decide
    rw [eb, bnd_v]
    refine ok2_b (by rw [cn_2]; exact slide_no h1 hW (by omega) (by omega) (by omega) (by omega) (tS_3' hin hs3 hcs) (by omega)) ?_
    refine ok2_p rfl ?_
    rw [bnd_v]
    refine ok2_b (by rw [cn_2]; exact slide_no h2 hW (by omega) (by omega) (by omega) (by omega) (tS_3' hin hs3 hcs) (by omega)) ?_
    refine ok2_p rfl ?_
    exact ok2_1 h1 h2
  obtain ⟨m, hm⟩ : ∃ m : Nat, 1 + x / 16 % r = m := ⟨_, rfl⟩
  have hm1 : 1 ≤ m ∧ m ≤ r := by have := Nat.mod_lt (x / 16) (show 0 < r by omega); omega
  obtain ⟨b, hb⟩ : ∃ b : Int, b = sgn f * (m : Int) := ⟨_, rfl⟩
  have hbm : b.natAbs = m ∧ b ≠ 0 ∧ decide (0 < b) = f ∧ (f = true → b = m) ∧ (f = false → b = -(m : Int)) := by
    cases f with
    | true =>
      have e : b = (m : Int) := by rw [hb]; show (1 : Int) * (m : Int) = m; omega
      exact ⟨by omega, by omega, decide_eq_true (by omega), fun _ => e, fun z => (by cases z)⟩
    | false =>
      have e : b = -(m : Int) := by rw [hb]; show (-1 : Int) * (m : Int) = -m; omega
      exact ⟨by omega, by omega, decide_eq_false (by omega), fun z => (by cases z), fun _ => e⟩
  have hcs : canS (xw S) (xL S) (xG S) (xP S) (xn S) i b = true := by
    unfold canS
    rw [hbm.2.2.1, hr, hbm.1]
    exact decide_eq_true hm1.2
  obtain ⟨q, q1, q2, q3, q4⟩ := slide_y hw hin (show -3 ≤ b by omega) (show b ≤ 3 by omega) hcs
  obtain ⟨hW1, d1⟩ := sl_y hW hin (show -3 ≤ b by omega) (show b ≤ 3 by omega) hbm.2.1 hcs (show xk S < 60 by omega) q1
  have hL1 : LW (oSlide S i q b) := hL.slide
  obtain ⟨S1, hS1⟩ : ∃ S1, oSlide S i q b = S1 := ⟨_, rfl⟩
  have x1n : xn S1 = xn S := by rw [← hS1]; rfl
  have x1k : xk S1 = xk S + 1 := by rw [← hS1]; rfl
  have x1P : xP S1 = updN (xP S) i q := by rw [← hS1]; rfl
  have x1G : xG S1 = xG S := by rw [← hS1]; rfl
  have x1c : xc S1 = updN (xc S) (xk S) i := by rw [← hS1]; rfl
  have x1b : xb S1 = updZ (xb S) (xk S) b := by rw [← hS1]; rfl
  have x1w : xw S1 = xw S := by rw [← hS1]; rfl
  have x1L : xL S1 = xL S := by rw [← hS1]; rfl
  have x1C : sC S1 = sC (savS S) := by rw [← hS1]; rfl
  have x1V : sV S1 = sV (savS S) := by rw [← hS1]; rfl
  rw [hS1] at hW1 d1 hL1
  have hkt : xk S1 - 1 = xk S := by omega
  obtain ⟨p, p1, p2, hW2, d2⟩ := take_y hW1 (show 0 < xk S1 by omega)
  have hL2 : LW (oTake S1 p) := hL1.take
  rw [hkt, x1c, updN_s] at d2
  rw [hkt, x1c, x1b, updN_s, updZ_s, x1P, updN_s] at p1
  have pP : p = xP S i := by omega
  obtain ⟨S2, hS2⟩ : ∃ S2, oTake S1 p = S2 := ⟨_, rfl⟩
  have x2n : xn S2 = xn S1 := by rw [← hS2]; rfl
  have x2k : xk S2 = xk S := by rw [← hS2]; exact hkt
  have x2P : xP S2 = updN (xP S1) i p := by rw [← hS2]; show updN (xP S1) (xc S1 (xk S1 - 1)) p = _; rw [hkt, x1c, updN_s]
  have x2G : xG S2 = xG S1 := by rw [← hS2]; rfl
  have x2c : xc S2 = xc S1 := by rw [← hS2]; rfl
  have x2b : xb S2 = xb S1 := by rw [← hS2]; rfl
  have x2C : sC S2 = sC (savS S1) := by rw [← hS2]; rfl
  have x2V : sV S2 = sV (savS S1) := by rw [← hS2]; rfl
  rw [hS2] at hW2 d2 hL2
  have hC1 : 1 ≤ sC S1 := by rw [x1C]; exact sav_pos hW.c5
  have hC2 : 2 ≤ sC S2 := by rw [x2C]; exact sav_two hC1 hW1.c5
  have hNN : sN (oUndo (oUndo S2)) = sN S := by
    show sV S2 (sC S2 - 1 - 1) = sN S
    rw [x2V, x2C, show sC (savS S1) - 1 - 1 = sC (savS S1) - 2 by omega, sav_second hC1 hW1.c5, x1V, x1C, sav_top hW.c5]
  have hWu := undo_WI (undo_WI hW2 (by omega)) (show 0 < sC S2 - 1 by omega)
  have hLu := (hL2.undo (by omega)).undo (show 0 < sC S2 - 1 by omega)
  refine ⟨oUndo (oUndo S2), hWu, hLu, fun M h1 h2 => ?_⟩
  have hg := hw.2.2.1 i hin
  rw [head M h1]
  have hrz : ¬ iI (r : Int) = (0 : Int32) := nz (by omega) (by omega) (by omega)
  refine ok2_n hrz ?_
  refine ok2_g hrz ?_
  have e21 : (if (if f = true then (1 : Int32) else (0 : Int32)) = 0 then (-(iI (m : Int))) else iI (m : Int)) = iI b := by
    cases f with
    | true => rw [hbm.2.2.2.1 rfl]; rfl
    | false => rw [hbm.2.2.2.2 rfl, ← iI_neg]; rfl
  rw [rem_I hx16 (by omega) (by omega), show (1 : Int32) = iI ((1 : Nat) : Int) from rfl, iI_add, show ((1 : Nat) : Int) + ((x / 16 % r : Nat) : Int) = (m : Int) by omega, bnd_v, ← show (1 : Int32) = iI ((1 : Nat) : Int) from rfl, e21, bnd_v, cn_11]
  refine ok2_b (tp_y h1 hW hin) ?_
  rw [lk_fuel h1 hW, ob_s, lk_logged h1, bnd_v]
  rw [cn_2]
  refine ok2_d d1 h1 (fun M1 k1 => ?_)
  refine ok2_o (S1 := S2) ?_ (fun M' g1 g2 => ?_)
  · refine ok2_p (by rw [iI_add, q1]) ?_
    rw [cn_2]
    refine ok2_d d1 h2 (fun M2 k2 => ?_)
    refine ok2_p (by rw [iI_add, q1]) ?_
    rw [lk_fuel k1 hW1, ob_s]
    refine ok2_b (by rw [cn_12]; exact tg_y k1 hW1 (show i < xn S1 by omega)) ?_
    have hfu : fuS (xG S1) (xc S1) (xb S1) (xk S1) = fuS (xG S) (xc S) (xb S) (xk S) + m * xG S i := by
      rw [x1G, x1c, x1b, x1k]
      show fuS (xG S) (updN (xc S) (xk S) i) (updZ (xb S) (xk S) b) (xk S) + (updZ (xb S) (xk S) b (xk S)).natAbs * xG S (updN (xc S) (xk S) i (xk S)) = _
      rw [updZ_s, updN_s, hbm.1, fuS_cg (lc' := xc S) (lb' := xb S) fun j hj => ⟨updN_n (by omega), updZ_n (by omega)⟩]
    refine ok2_p (by rw [hfu, x1G, iI_mul, iI_add]; congr 1) ?_
    refine ok2_p (by rw [lk_logged k1, x1k, s1_I]) ?_
    refine ok2_b (by rw [cn_14]; exact tc_y k1 hW1 (show xk S < xk S1 by omega)) ?_
    refine ok2_p (by rw [x1c, updN_s]) ?_
    refine ok2_b (by rw [cn_15]; exact tb_y k1 hW1 (show xk S < xk S1 by omega)) ?_
    refine ok2_p (by rw [x1b, updZ_s]) ?_
    have e66 : (if (if f = true then (1 : Int32) else (0 : Int32)) = 0 then (1 : Int32) else (0 : Int32)) = if (!f) = true then (1 : Int32) else (0 : Int32) := by cases f <;> rfl
    rw [e66, bnd_v]
    refine ok2_b (rm_y k1 hW1 (show i < xn S1 by omega) (!f)) ?_
    have hbk := rmm_back hw hin (show -3 ≤ b by omega) (show b ≤ 3 by omega) hcs q1
    rw [hbm.1, hbm.2.2.1] at hbk
    have hr3' := rmm_3 hW1.pk (show i < xn S1 by omega) (!f)
    have hbk' : m ≤ rmm (xw S1) (xL S1) (xG S1) (xP S1) (xn S1) i (!f) := by rw [x1w, x1L, x1G, x1P, x1n]; exact hbk
    refine ok2_n (by rw [iI_lt (by omega) (by omega) (by omega) (by omega)]; omega) ?_
    rw [cn_3]
    refine ok2_d d2 k1 (fun M3 k3 => ?_)
    refine ok2_p rfl ?_
    rw [cn_3]
    refine ok2_d d2 k2 (fun M4 k4 => ?_)
    refine ok2_p rfl ?_
    refine ok2_b (by rw [cn_11]; exact tp_y k3 hW2 (show i < xn S2 by omega)) ?_
    refine ok2_p (by rw [x2P, updN_s, pP]) ?_
    rw [lk_fuel k3 hW2, ob_s]
    refine ok2_p ?_ (ok2_1 k3 k4)
    rw [x2G, x2c, x2b, x2k, x1G, x1c, x1b, fuS_cg (lc' := xc S) (lb' := xb S) fun j hj => ⟨updN_n (by omega), updZ_n (by omega)⟩]
  refine ok2_n (by decide) ?_
  refine ok2_o (undoes_2 hW2 (by omega) g1 g2) (fun M5 g1 g2 => ?_)
  obtain ⟨y1, y2, y3, y4, y5, y6⟩ := xN_of hNN
  refine ok2_n (by decide) ?_
  refine ok2_p (by rw [lk_logged g1, y3]) ?_
  refine ok2_b (by rw [cn_11]; exact tp_y g1 hWu (show i < xn (oUndo (oUndo S2)) by omega)) ?_
  refine ok2_p (by rw [y5]) ?_
  exact ok2_1 g1 g2
end UN
