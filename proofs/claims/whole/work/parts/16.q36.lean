/-! ===== the digest ===== -/
abbrev mx (h : Int64) (v : Int32) : Int64 := F_X3_mix h v.toInt64
def hCells (w n : Nat) (L P G : Nat → Nat) : Nat → Nat → Int64 → Int64
  | 0, _, h => h
  | r + 1, i, h => hCells w n L P G r (i + 1) (F_X3_mix (mx h (iI (fcar L P G i n 0))) (if w.testBit i = true then (1 : Int64) else (0 : Int64)))
def hCars (w n k : Nat) (L P G lc : Nat → Nat) (lb : Nat → Int) : Nat → Nat → Int64 → Int64
  | 0, _, h => h
  | r + 1, i, h => hCars w n k L P G lc lb r (i + 1) (mx (mx (mx (mx (mx (mx h (iI (L i : Int))) (iI (P i : Int))) (iI (G i : Int))) (iI ((stps lc lb k i : Nat) : Int))) (iI ((rmm w L G P n i true : Nat) : Int))) (iI ((rmm w L G P n i false : Nat) : Int)))
def hLog (lc : Nat → Nat) (lb : Nat → Int) : Nat → Nat → Int64 → Int64
  | 0, _, h => h
  | r + 1, i, h => hLog lc lb r (i + 1) (mx (mx h (iI (lc i : Int))) (iI (lb i)))
def hText (tc : Nat → Nat) : Nat → Nat → Int64 → Int64
  | 0, _, h => h
  | r + 1, i, h => hText tc r (i + 1) (mx h (iI (tc i : Int)))
def hPark (w n k : Nat) (L P G lc : Nat → Nat) (lb : Nat → Int) (h : Int64) : Int64 :=
  mx (mx (mx (mx (F_X3_mix (mx (mx (mx h (iI (n : Int))) (iI ((pc 25 w : Nat) : Int))) (iI (25 - ((pc 25 (ocm w L G P n) : Nat) : Int)))) (if isR n P G = true then (1 : Int64) else (0 : Int64))) (iI ((allR w L G P n n : Nat) : Int))) (iI (k : Int))) (iI ((fuS G lc lb k : Nat) : Int))) (iI ((fuS G lc lb k : Nat) : Int))
noncomputable def hPl (w n : Nat) (L P G : Nat → Nat) (h : Int64) : Int64 :=
  mx (mx (mx (mx (mx h (iI (Aleast w L G n 3 (enc P n)))) (iI (Aend w L G n (enc P n)))) (iI (Aleast w L G n 1 (enc P n)))) (iI (Afuel w L G n (enc P n)))) (iI (Afuel w L G n (enc P n)))
noncomputable def hAr (w n : Nat) (L P G : Nat → Nat) (h : Int64) : Int64 :=
  mx (mx (mx (mx h (iI (Acnt w L G n (enc P n)))) (iI (Aout w L G n (enc P n)))) (iI (Afar w L G n (enc P n)))) (iI ((Aall w L G n : Nat) : Int))
section DG
variable {n w k : Nat} {z : Int} {L P G lc : Nat → Nat} {lb : Nat → Int}
theorem cpark_I {M : Wd} (h : PkC 1 n w k z L P G lc lb M) (hW : PkW n w k z L P G lc lb) {x : Int64} : F_X3_hashOfPark x M = some (hPark w n k L P G lc lb x) := by
  unfold F_X3_hashOfPark F_X3_walls F_X3_isOut F_X3_freeCells
  rw [h.vn, h.vw, h.vk, bitCount_I hW.2.1, taken_I h hW, redOut_I h hW, i10_eq0, poss_I h hW, fuel_I h hW, fuelC_I h hW, ob_s, bitCount_I hW.oc, show (25 : Int32) = iI 25 from rfl, iI_sub]
  rfl
theorem cplans_I {M : Wd} (h : EL w n L G M) (hst : M.1 44 8 = iI ((enc P n : Nat) : Int)) (hv : VV w L G n (enc P n)) {x : Int64} :
    ∃ M', F_X3_hashOfPlans x M = some (hPl w n L P G x, M') ∧ EL w n L G M' ∧ M'.1 44 8 = iI ((enc P n : Nat) : Int) ∧ frX M M' := by
  obtain ⟨M1, a1, a2, a3, a4⟩ := cslides_I h hst hv
  obtain ⟨M2, S, b1, -, -, -, b2, b3, b4⟩ := cends_I a2 a3 hv
  obtain ⟨M3, c1, c2, c3, c4⟩ := csteps_I b2 b3 hv
  obtain ⟨M4, d1, d2, d3, d4⟩ := cbuck_I c2 c3 hv
  obtain ⟨M5, e1, e2, e3, e4⟩ := crnd_I d2 d3 hv
  refine ⟨M5, ?_, e2, e3, (((a4.tr b4).tr c4).tr d4).tr e4⟩
  unfold F_X3_hashOfPlans
  rw [a1, ob2_s, bnd_v, b1, ob2_s, bnd_v, c1, ob2_s, bnd_v, d1, ob2_s, bnd_v, e1, ob2_s]
  rfl
theorem carr_I {M : Wd} {S : SS} (h : EL w n L G M) (h2 : SE n M S) (h4 : SrS w L G n 3 (enc P n) S) {x : Int64} : F_X3_hashOfArrangements x M = some (hAr w n L P G x) := by
  unfold F_X3_hashOfArrangements
  rw [ccnt_I h2 h4, cout_I h h2 h4, cfar_I h h2 h4, call_I h]
  rfl
theorem ccells_loop {M : Wd} (h : PkC 1 n w k z L P G lc lb M) (hW : PkW n w k z L P G lc lb) {ρ : Type} {K : Int64 → Option ρ} : ∀ (r q i : Nat) (x : Int64), i + r = 25 →
    F_X3_hashOfCells_L5 M K (q + 1 + r) x (iI (i : Int)) = K (hCells w n L P G r i x)
  | 0, q, i, x, hr => by
    show (if (25 : Int32) ≤ iI (i : Int) then K x else _) = K x
    rw [show (25 : Int32) = iI 25 from rfl, if_le (by omega) (by omega) (by omega) (by omega), if_pos (by omega)]
  | r + 1, q, i, x, hr => by
    have hw := hW.2.1
    show (if (25 : Int32) ≤ iI (i : Int) then K x else obind (F_X1_carAt (iI (i : Int)) M) fun v2 => bnd (F_X3_mix x v2.toInt64) fun v6 => bnd (if (F_X1_hasWallAt (iI (i : Int)) M) = 0 then (0 : Int64) else (1 : Int64)) fun v9 => bnd (F_X3_mix v6 v9) fun v13 => bnd (iI (i : Int) + (1 : Int32)) fun v15 => F_X3_hashOfCells_L5 M K (q + 1 + r) v13 v15) = _
    rw [show (25 : Int32) = iI 25 from rfl, if_le (by omega) (by omega) (by omega) (by omega), if_neg (by omega), carAt_I h hW (by omega), ob_s, bnd_v, wallAt_I h.vw (by omega) (by omega), i10_eq0, bnd_v, bnd_v, s1_I, bnd_v]
    exact ccells_loop h hW r q (i + 1) _ (by omega)
theorem ccars_loop {M : Wd} (h : PkC 1 n w k z L P G lc lb M) (hW : PkW n w k z L P G lc lb) {ρ : Type} {K : Int64 → Option ρ} : ∀ (r q i : Nat) (x : Int64), i + r = n →
    F_X3_hashOfCars_L5 M K (q + 1 + r) x (iI (i : Int)) = K (hCars w n k L P G lc lb r i x)
  | 0, q, i, x, hr => by
    have hn := hW.n6
    show (if (M.1 1 5) ≤ iI (i : Int) then K x else _) = K x
    rw [h.vn, if_le (by omega) (by omega) (by omega) (by omega), if_pos (by omega)]
  | r + 1, q, i, x, hr => by
    have hn := hW.n6
    have hi : i < n := by omega
    show (if (M.1 1 5) ≤ iI (i : Int) then K x else if (6 : Int32) ≤ iI (i : Int) then K x else ldi (M.1 2) 6 (iI (i : Int)) fun v3 => bnd (F_X3_mix x v3.toInt64) fun v7 => ldi (M.1 3) 6 (iI (i : Int)) fun v9 => bnd (F_X3_mix v7 v9.toInt64) fun v13 => ldi (M.1 4) 6 (iI (i : Int)) fun v15 => bnd (F_X3_mix v13 v15.toInt64) fun v19 => obind (F_X1_loggedSteps (iI (i : Int)) M) fun v21 => bnd (F_X3_mix v19 v21.toInt64) fun v25 => obind (F_X1_roomOf (iI (i : Int)) (1 : Int32) M) fun v27 => bnd (F_X3_mix v25 v27.toInt64) fun v31 => obind (F_X1_roomOf (iI (i : Int)) (-1 : Int32) M) fun v33 => bnd (F_X3_mix v31 v33.toInt64) fun v37 => bnd (iI (i : Int) + (1 : Int32)) fun v39 => F_X3_hashOfCars_L5 M K (q + 1 + r) v37 v39) = _
    have r1 := roomOf_I h hW (f := true) hi
    have r2 := roomOf_I h hW (f := false) hi
    have r1' : F_X1_roomOf (iI (i : Int)) (1 : Int32) M = _ := r1
    have r2' : F_X1_roomOf (iI (i : Int)) (-1 : Int32) M = _ := r2
    rw [h.vn, if_le (by omega) (by omega) (by omega) (by omega), if_neg (by omega), show (6 : Int32) = iI 6 from rfl, if_le (by omega) (by omega) (by omega) (by omega), if_neg (by omega), ldi_N (a := M.1 2) (by omega) (by omega), bnd_v, ldi_N (a := M.1 3) (by omega) (by omega), bnd_v, ldi_N (a := M.1 4) (by omega) (by omega), bnd_v, steps_I h hW (by omega), ob_s, bnd_v, r1', ob_s, bnd_v, r2', ob_s, bnd_v, s1_I, bnd_v, h.vL hi, h.vP hi, h.vG hi]
    exact ccars_loop h hW r q (i + 1) _ (by omega)
theorem clog_loop {M : Wd} (h : PkC 1 n w k z L P G lc lb M) (hW : PkW n w k z L P G lc lb) {ρ : Type} {K : Int64 → Option ρ} : ∀ (r q i : Nat) (x : Int64), i + r = k →
    F_X3_hashOfLog_L5 M K (q + 1 + r) x (iI (i : Int)) = K (hLog lc lb r i x)
  | 0, q, i, x, hr => by
    have hk := hW.k60
    show (if (M.1 1 7) ≤ iI (i : Int) then K x else _) = K x
    rw [h.vk, if_le (by omega) (by omega) (by omega) (by omega), if_pos (by omega)]
  | r + 1, q, i, x, hr => by
    have hk := hW.k60
    have hi : i < k := by omega
    show (if (M.1 1 7) ≤ iI (i : Int) then K x else if (60 : Int32) ≤ iI (i : Int) then K x else ldi (M.1 5) 60 (iI (i : Int)) fun v3 => bnd (F_X3_mix x v3.toInt64) fun v7 => ldi (M.1 6) 60 (iI (i : Int)) fun v9 => bnd (F_X3_mix v7 v9.toInt64) fun v13 => bnd (iI (i : Int) + (1 : Int32)) fun v15 => F_X3_hashOfLog_L5 M K (q + 1 + r) v13 v15) = _
    rw [h.vk, if_le (by omega) (by omega) (by omega) (by omega), if_neg (by omega), show (60 : Int32) = iI 60 from rfl, if_le (by omega) (by omega) (by omega) (by omega), if_neg (by omega), ldi_N (a := M.1 5) (by omega) (by omega), bnd_v, ldi_N (a := M.1 6) (by omega) (by omega), bnd_v, s1_I, bnd_v, h.vlc hi, h.vlb hi]
    exact clog_loop h hW r q (i + 1) _ (by omega)
theorem ctext_loop {M : Wd} {tl : Nat} {tc : Nat → Nat} (h : Tk tl tc M) {ρ : Type} {K : Int64 → Option ρ} : ∀ (r q i : Nat) (x : Int64), i + r = tl →
    F_X3_hashOfText_L16 M K (q + 1 + r) x (iI (i : Int)) = K (hText tc r i x)
  | 0, q, i, x, hr => by
    have h60 := h.1
    show (if (M.1 51 1) ≤ iI (i : Int) then K x else _) = K x
    rw [h.2.2.1, if_le (by omega) (by omega) (by omega) (by omega), if_pos (by omega)]
  | r + 1, q, i, x, hr => by
    have h60 := h.1
    show (if (M.1 51 1) ≤ iI (i : Int) then K x else obind (F_X2_codeAt (iI (i : Int)) M) fun v5 => bnd (F_X3_mix x v5.toInt64) fun v9 => bnd (iI (i : Int) + (1 : Int32)) fun v11 => F_X3_hashOfText_L16 M K (q + 1 + r) v9 v11) = _
    rw [h.2.2.1, if_le (by omega) (by omega) (by omega) (by omega), if_neg (by omega), code_y h (by omega), ob_s, bnd_v, s1_I, bnd_v]
    exact ctext_loop h r q (i + 1) _ (by omega)
/-! the model's -/
def DS (n w k : Nat) (z : Int) (L P G lc : Nat → Nat) (lb : Nat → Int) (M0 : Wd) (x : Int64) (M : Wd) : Prop :=
  PkM 55 0 n w k z L P G lc lb M ∧ (∀ c, c < 53 ∨ c = 54 ∨ c = 55 ∨ c = 56 ∨ c = 57 → M.1 c = M0.1 c) ∧ (∀ j, j ≠ 9 → j ≠ 10 → j ≠ 14 → M.1 53 j = M0.1 53 j) ∧ M.2.2 = M0.2.2 ∧ M.2.1 62 = M0.2.1 62 ∧ M.2.1 53 21 = x
theorem DS.ad {M0 M : Wd} {x : Int64} (h : DS n w k z L P G lc lb M0 x M) (v : Int64) : ∃ M', F_X4_adds v M = some M' ∧ DS n w k z L P G lc lb M0 (F_X3_mix x v) M' := by
  obtain ⟨h1, h2, h3, h4, h5, h6⟩ := h
  refine ⟨upL M 53 21 (F_X3_mix x v), ?_, h1, h2, h3, h4, h5, rfl⟩
  unfold F_X4_adds F_X3_mix
  rw [h6]
theorem DS.fy {M0 M N : Wd} {x : Int64} (h : DS n w k z L P G lc lb M0 x M) (hp : PkM 55 0 n w k z L P G lc lb N) (hf : frY M N) : DS n w k z L P G lc lb M0 x N := by
  obtain ⟨h1, h2, h3, h4, h5, h6⟩ := h
  exact ⟨hp, fun c hc => by rw [hf.1 c (by omega), h2 c hc], fun j a b c => by rw [hf.2.1 j a b c, h3 j a b c], by rw [hf.2.2, h4], by rw [hf.2.2, h5], by rw [hf.2.2, h6]⟩
theorem mcells_loop (hW : PkW n w k z L P G lc lb) {M0 : Wd} {ρ : Type} {K : Wd → Option ρ} : ∀ (r q i : Nat) (x : Int64) (M : Wd), i + r = 25 → DS n w k z L P G lc lb M0 x M →
    ∃ M', F_X4_digest_L123 K (q + 1 + r) (iI (i : Int)) M = K M' ∧ DS n w k z L P G lc lb M0 (hCells w n L P G r i x) M'
  | 0, q, i, x, M, hr, h => by
    refine ⟨M, ?_, h⟩
    show (if (25 : Int32) ≤ iI (i : Int) then K M else _) = K M
    rw [show (25 : Int32) = iI 25 from rfl, if_le (by omega) (by omega) (by omega) (by omega), if_pos (by omega)]
  | r + 1, q, i, x, M, hr, h => by
    have hw := hW.2.1
    obtain ⟨M1, a1, a2⟩ := h.ad (iI (fcar L P G i n 0)).toInt64
    obtain ⟨M2, b1, b2⟩ := a2.ad (if w.testBit i = true then (1 : Int64) else (0 : Int64))
    obtain ⟨M3, c1, c2⟩ := mcells_loop hW r q (i + 1) _ M2 (by omega) b2
    refine ⟨M3, ?_, c2⟩
    show (if (25 : Int32) ≤ iI (i : Int) then K M else obind (F_X4_carAt (iI (i : Int)) M) fun v44 => obind (F_X4_adds v44.toInt64 M) fun M47 => bnd (if (F_X4_hasWall (iI (i : Int)) M47) = 0 then (0 : Int64) else (1 : Int64)) fun v50 => obind (F_X4_adds v50 M47) fun M53 => bnd (iI (i : Int) + (1 : Int32)) fun v55 => F_X4_digest_L123 K (q + 1 + r) v55 M53) = _
    rw [show (25 : Int32) = iI 25 from rfl, if_le (by omega) (by omega) (by omega) (by omega), if_neg (by omega), mcarAt_I h.1 hW (by omega), ob_s, a1, ob_s, mwall_I a2.1.vw (by omega) (by omega), i10_eq0, bnd_v, b1, ob_s, s1_I, bnd_v]
    exact c1
theorem addsCar_I (hW : PkW n w k z L P G lc lb) {M0 M : Wd} {x : Int64} {i : Nat} (hi : i < n) (h : DS n w k z L P G lc lb M0 x M) : ∃ M', F_X4_addsCar (iI (i : Int)) M = some M' ∧ DS n w k z L P G lc lb M0 (mx (mx (mx (mx (mx (mx x (iI (L i : Int))) (iI (P i : Int))) (iI (G i : Int))) (iI ((stps lc lb k i : Nat) : Int))) (iI ((rmm w L G P n i true : Nat) : Int))) (iI ((rmm w L G P n i false : Nat) : Int))) M' := by
  have hn := hW.n6
  obtain ⟨M1, a1, a2⟩ := h.ad (iI (L i : Int)).toInt64
  obtain ⟨M2, b1, b2⟩ := a2.ad (iI (P i : Int)).toInt64
  obtain ⟨M3, c1, c2⟩ := b2.ad (iI (G i : Int)).toInt64
  obtain ⟨M4, d1, d2⟩ := c2.ad (iI ((stps lc lb k i : Nat) : Int)).toInt64
  obtain ⟨M5, e1, e2⟩ := d2.ad (iI ((rmm w L G P n i true : Nat) : Int)).toInt64
  obtain ⟨M6, f1, f2⟩ := e2.ad (iI ((rmm w L G P n i false : Nat) : Int)).toInt64
  refine ⟨M6, ?_, f2⟩
  have s1 := space_I d2.1 hW (f := true) hi
  have s2 := space_I e2.1 hW (f := false) hi
  have s1' : F_X4_space (iI (i : Int)) (1 : Int32) M4 = _ := s1
  have s2' : F_X4_space (iI (i : Int)) (-1 : Int32) M5 = _ := s2
  unfold F_X4_addsCar
  rw [a1_I, a7_I, a13_I, ldi_N (a := M.1 55) (by omega) (by omega), h.1.vL hi, a1, ob_s, ldi_N (a := M1.1 55) (by omega) (by omega), a2.1.vP hi, b1, ob_s, ldi_N (a := M2.1 55) (by omega) (by omega), b2.1.vG hi, c1, ob_s, msteps_I c2.1 hW (by omega), ob_s, d1, ob_s, s1', ob_s, e1, ob_s, s2', ob_s, f1, ob_s]
theorem dgcars_loop (hW : PkW n w k z L P G lc lb) {M0 : Wd} {ρ : Type} {K : Wd → Option ρ} : ∀ (r q i : Nat) (x : Int64) (M : Wd), i + r = n → DS n w k z L P G lc lb M0 x M →
    ∃ M', F_X4_digest_L164 K (q + 1 + r) (iI (i : Int)) M = K M' ∧ DS n w k z L P G lc lb M0 (hCars w n k L P G lc lb r i x) M'
  | 0, q, i, x, M, hr, h => by
    have hn := hW.n6
    refine ⟨M, ?_, h⟩
    show (if (M.1 55 0) ≤ iI (i : Int) then K M else _) = K M
    rw [h.1.vn, if_le (by omega) (by omega) (by omega) (by omega), if_pos (by omega)]
  | r + 1, q, i, x, M, hr, h => by
    have hn := hW.n6
    obtain ⟨M1, a1, a2⟩ := addsCar_I hW (show i < n by omega) h
    obtain ⟨M3, c1, c2⟩ := dgcars_loop hW r q (i + 1) _ M1 (by omega) a2
    refine ⟨M3, ?_, c2⟩
    show (if (M.1 55 0) ≤ iI (i : Int) then K M else obind (F_X4_addsCar (iI (i : Int)) M) fun M59 => bnd (iI (i : Int) + (1 : Int32)) fun v61 => F_X4_digest_L164 K (q + 1 + r) v61 M59) = _
    rw [h.1.vn, if_le (by omega) (by omega) (by omega) (by omega), if_neg (by omega), a1, ob_s, s1_I, bnd_v]
    exact c1
theorem mlog_loop (hW : PkW n w k z L P G lc lb) {M0 : Wd} {ρ : Type} {K : Wd → Option ρ} : ∀ (r q i : Nat) (x : Int64) (M : Wd), i + r = k → DS n w k z L P G lc lb M0 x M →
    ∃ M', F_X4_digest_L187 K (q + 1 + r) (iI (i : Int)) M = K M' ∧ DS n w k z L P G lc lb M0 (hLog lc lb r i x) M'
  | 0, q, i, x, M, hr, h => by
    have hk := hW.k60
    refine ⟨M, ?_, h⟩
    show (if (M.1 55 20) ≤ iI (i : Int) then K M else _) = K M
    rw [h.1.vk, if_le (by omega) (by omega) (by omega) (by omega), if_pos (by omega)]
  | r + 1, q, i, x, M, hr, h => by
    have hk := hW.k60
    obtain ⟨M1, a1, a2⟩ := h.ad (iI (lc i : Int)).toInt64
    obtain ⟨M2, b1, b2⟩ := a2.ad (iI (lb i)).toInt64
    obtain ⟨M3, c1, c2⟩ := mlog_loop hW r q (i + 1) _ M2 (by omega) b2
    refine ⟨M3, ?_, c2⟩
    show (if (M.1 55 20) ≤ iI (i : Int) then K M else obind (F_X4_logCar (iI (i : Int)) M) fun v65 => obind (F_X4_adds v65.toInt64 M) fun M68 => obind (F_X4_logBy (iI (i : Int)) M68) fun v70 => obind (F_X4_adds v70.toInt64 M68) fun M73 => bnd (iI (i : Int) + (1 : Int32)) fun v75 => F_X4_digest_L187 K (q + 1 + r) v75 M73) = _
    rw [h.1.vk, if_le (by omega) (by omega) (by omega) (by omega), if_neg (by omega), logCar_I h.1 hW (by omega), ob_s, a1, ob_s, logBy_I a2.1 hW (by omega), ob_s, b1, ob_s, s1_I, bnd_v]
    exact c1
theorem mtext_loop {tl : Nat} {tc : Nat → Nat} (h60 : tl ≤ 60) {M0 : Wd} (hl : M0.1 53 2 = iI (tl : Int)) (ht : ∀ i, i < tl → M0.1 54 i = iI (tc i : Int)) {ρ : Type} {K : Wd → Option ρ} : ∀ (r q i : Nat) (x : Int64) (M : Wd), i + r = tl → DS n w k z L P G lc lb M0 x M →
    ∃ M', F_X4_digest_L289 K (q + 1 + r) (iI (i : Int)) M = K M' ∧ DS n w k z L P G lc lb M0 (hText tc r i x) M'
  | 0, q, i, x, M, hr, h => by
    refine ⟨M, ?_, h⟩
    show (if (M.1 53 2) ≤ iI (i : Int) then K M else _) = K M
    rw [h.2.2.1 2 (by decide) (by decide) (by decide), hl, if_le (by omega) (by omega) (by omega) (by omega), if_pos (by omega)]
  | r + 1, q, i, x, M, hr, h => by
    obtain ⟨M1, a1, a2⟩ := h.ad (iI (tc i : Int)).toInt64
    obtain ⟨M3, c1, c2⟩ := mtext_loop h60 hl ht r q (i + 1) _ M1 (by omega) a2
    refine ⟨M3, ?_, c2⟩
    show (if (M.1 53 2) ≤ iI (i : Int) then K M else ldi (M.1 54) 60 (iI (i : Int)) fun v98 => obind (F_X4_adds v98.toInt64 M) fun M101 => bnd (iI (i : Int) + (1 : Int32)) fun v103 => F_X4_digest_L289 K (q + 1 + r) v103 M101) = _
    rw [h.2.2.1 2 (by decide) (by decide) (by decide), hl, if_le (by omega) (by omega) (by omega) (by omega), if_neg (by omega), ldi_N (by omega) (by omega), h.2.1 54 (by omega), ht i (by omega), a1, ob_s, s1_I, bnd_v]
    exact c1
theorem addsPlans_I (hW : PkW n w k z L P G lc lb) {M0 M : Wd} {x : Int64} (h : DS n w k z L P G lc lb M0 x M) : ∃ M', F_X4_addsPlans M = some M' ∧ DS n w k z L P G lc lb M0 (hAr w n L P G (hPl w n L P G x)) M' := by
  obtain ⟨A1, a1, a2, a3⟩ := mfewest_I (m := 3) (by decide) h.1 hW
  obtain ⟨A2, a4, a5⟩ := (h.fy a2 a3).ad (iI (Aleast w L G n 3 (enc P n))).toInt64
  obtain ⟨B1, b1, b2, b3⟩ := mfends_I a5.1 hW
  obtain ⟨B2, b4, b5⟩ := (a5.fy b2 b3).ad (iI (Aend w L G n (enc P n))).toInt64
  obtain ⟨C1, c1, c2, c3⟩ := mfewest_I (m := 1) (by decide) b5.1 hW
  obtain ⟨C2, c4, c5⟩ := (b5.fy c2 c3).ad (iI (Aleast w L G n 1 (enc P n))).toInt64
  obtain ⟨D1, d1, d2, d3⟩ := mcheap_I c5.1 hW
  obtain ⟨D2, d4, d5⟩ := (c5.fy d2 d3).ad (iI (Afuel w L G n (enc P n))).toInt64
  obtain ⟨D3, d6, d7⟩ := d5.ad (iI (Afuel w L G n (enc P n))).toInt64
  obtain ⟨E1, e1, -, -, e2, e3⟩ := mreach_I d7.1 hW
  obtain ⟨E2, e4, e5⟩ := (d7.fy e2 e3).ad (iI (Acnt w L G n (enc P n))).toInt64
  obtain ⟨F1, -, f1, -, f2, f3⟩ := mreach_I e5.1 hW
  obtain ⟨F2, f4, f5⟩ := (e5.fy f2 f3).ad (iI (Aout w L G n (enc P n))).toInt64
  obtain ⟨G1, -, -, g1, g2, g3⟩ := mreach_I f5.1 hW
  obtain ⟨G2, g4, g5⟩ := (f5.fy g2 g3).ad (iI (Afar w L G n (enc P n))).toInt64
  obtain ⟨H1, h1, h2, h3⟩ := mall_I g5.1 hW
  obtain ⟨H2, h4, h5⟩ := (g5.fy h2 h3).ad (iI ((Aall w L G n : Nat) : Int)).toInt64
  refine ⟨H2, ?_, h5⟩
  unfold F_X4_addsPlans
  rw [show F_X4_fewest (3 : Int32) M = _ from a1, ob2_s, a4, ob_s, b1, ob2_s, b4, ob_s, show F_X4_fewest (1 : Int32) B2 = _ from c1, ob2_s, c4, ob_s, d1, ob2_s, d4, ob_s, d6, ob_s, e1, ob2_s, e4, ob_s, f1, ob2_s, f4, ob_s, g1, ob2_s, g4, ob_s, h1, ob2_s, h4, ob_s]
end DG
def hStop (z : Int) (x : Int64) : Int64 := if z = -1 then F_X3_mix x 0 else mx (F_X3_mix x 1) (iI z)
theorem hStop_y {z : Int} (e : z = -1) (x : Int64) : hStop z x = F_X3_mix x 0 := if_pos e
theorem hStop_n {z : Int} (e : ¬ z = -1) (x : Int64) : hStop z x = mx (F_X3_mix x 1) (iI z) := if_neg e
/-- the digest's number -/
noncomputable def hAll (w n k c : Nat) (z : Int) (L P G lc : Nat → Nat) (lb : Nat → Int) (v : UInt64) (tl : Nat) (tc : Nat → Nat) : Int64 :=
  hText tc tl 0 (mx (F_X3_mix (hStop z (hLog lc lb k 0 (hCars w n k L P G lc lb n 0 (hCells w n L P G 25 0 (mx (hAr w n L P G (hPl w n L P G (hPark w n k L P G lc lb 4507))) (iI (c : Int))))))) (F_Jxe99ae_doubleToLongBits_ccdee v)) (iI (tl : Int)))
theorem t_digest : TwoV F_X3_digest F_X4_digest := by
  rintro M ⟨⟨⟨n, w, k, z, L, P, G, lc, lb⟩, kp, kf, c, sv, tl, tc⟩, hW, hC, hM⟩
  have h : PkC 1 n w k z L P G lc lb M := hC.1
  have hw : PkW n w k z L P G lc lb := hW.1
  have hn := hw.n6
  have hk := hw.k60
  have hz := hw.2.2.2.2.2.1
  obtain ⟨v, v1, v2, v3, v4⟩ := share_I hw
  obtain ⟨M1, f1, f2, f3, f4⟩ := explore_I h hw
  obtain ⟨M2, p1, p2, p3, p4⟩ := cplans_I (x := hPark w n k L P G lc lb 4507) f2 f3 hw.vv
  obtain ⟨M3, S, g1, g2, g3, g4, g5, g6, g7⟩ := sfs_I (m := 3) (by decide) p2 p3 hw.vv
  have hf := (f4.tr p4).tr g7
  have h3 := h.frx (by omega) hf
  have hC3 := hC.frx hW.2.2.1 hf
  have hk3 : Tk tl tc M3 := hC3.tk hW
  have h60 : tl ≤ 60 := hk3.1
  have h05 : M3.1 0 5 = iI (c : Int) := hC3.2.2.2.1
  have h18 : M3.1 1 8 = if z = -1 then iI 0 else iI 1 := h3.2.2.2.1
  obtain ⟨q1, e1⟩ := fuelS 25 (by decide)
  obtain ⟨q2, e2⟩ := fuelS n (by omega)
  obtain ⟨q3, e3⟩ := fuelS k (by omega)
  obtain ⟨q4, e4⟩ := fuelS tl (by omega)
  refine two_v (S' := (⟨⟨n, w, k, z, L, P, G, lc, lb⟩, kp, kf, c, sv, tl, tc⟩ : Wst)) (M1 := M3) (v := hAll w n k c z L P G lc lb v tl tc) hM hW ?_ hC3 hf.cl (fun N hN => ?_)
  · have c1 : ∀ x, F_X3_hashOfCells x M3 = some (hCells w n L P G 25 0 x) := fun x => by
      unfold F_X3_hashOfCells
      rw [e1]; exact ccells_loop h3 hw 25 q1 0 x rfl
    have c2 : ∀ x, F_X3_hashOfCars x M3 = some (hCars w n k L P G lc lb n 0 x) := fun x => by
      unfold F_X3_hashOfCars
      rw [e2]; exact ccars_loop h3 hw n q2 0 x (Nat.zero_add n)
    have c3 : ∀ x, F_X3_hashOfLog x M3 = some (hLog lc lb k 0 x) := fun x => by
      unfold F_X3_hashOfLog
      rw [e3]; exact clog_loop h3 hw k q3 0 x (Nat.zero_add k)
    have c4 : ∀ x, F_X3_hashOfText x M3 = some (hText tc tl 0 (mx x (iI (tl : Int)))) := fun x => by
      unfold F_X3_hashOfText
      rw [hk3.2.2.1, bnd_v, e4]; exact ctext_loop hk3 tl q4 0 _ (Nat.zero_add tl)
    unfold F_X3_digest
    rw [cpark_I h hw, ob_s, f1, ob_s, p1, ob2_s, show (3 : Int32) = iI ((3 : Nat) : Int) from rfl, g1, ob_s, carr_I g5 g2 g4, ob_s, h05, bnd_v, c1, ob_s, c2, ob_s, c3, ob_s, h18, bnd_v, bnd_v, bnd_v, call_I g5, ob_s, ccnt_I g2 g4, v1, ob_s, v4, ob_s, bnd_v, c4, ob_s]
    unfold hAll
    by_cases e : z = -1
    · rw [if_pos e, hStop_y e, if_pos (show iI 0 = (0 : Int32) from rfl), if_pos (show iI 0 = (0 : Int32) from rfl)]
    · rw [if_neg e, hStop_n e, if_neg (show ¬ iI 1 = (0 : Int32) by decide), if_neg (show ¬ iI 1 = (0 : Int32) by decide), h3.2.2.2.2.1 e]
  · have hN0 := hN.ref (v := (0 : Int32))
    have hm0 : PkM 55 0 n w k z L P G lc lb (upI N 53 0 (0 : Int32)) := hN0.1
    have hl0 : (upI N 53 0 (0 : Int32)).1 53 2 = iI (tl : Int) := hN0.2.2.2.2.2.1
    have ht0 : ∀ i, i < tl → (upI N 53 0 (0 : Int32)).1 54 i = iI (tc i : Int) := hN0.2.2.2.2.2.2
    have h50 : (upI N 53 0 (0 : Int32)).1 53 5 = iI (c : Int) := hN0.2.2.2.1
    have d0 : DS n w k z L P G lc lb (upI N 53 0 (0 : Int32)) 4507 (upL (upI N 53 0 (0 : Int32)) 53 21 (4507 : Int64)) := ⟨hm0, fun _ _ => rfl, fun _ _ _ _ => rfl, rfl, rfl, rfl⟩
    obtain ⟨A1, a1, b1⟩ := d0.ad (iI (n : Int)).toInt64
    obtain ⟨A2, a2, b2⟩ := b1.ad (iI ((pc 25 w : Nat) : Int)).toInt64
    obtain ⟨A3, a3, b3⟩ := b2.ad (iI (25 - ((pc 25 (ocm w L G P n) : Nat) : Int))).toInt64
    obtain ⟨A4, a4, b4⟩ := b3.ad (if isR n P G = true then (1 : Int64) else (0 : Int64))
    obtain ⟨A5, a5, b5⟩ := b4.ad (iI ((allR w L G P n n : Nat) : Int)).toInt64
    obtain ⟨A6, a6, b6⟩ := b5.ad (iI (k : Int)).toInt64
    obtain ⟨A7, a7, b7⟩ := b6.ad (iI ((fuS G lc lb k : Nat) : Int)).toInt64
    obtain ⟨A8, a8, b8⟩ := b7.ad (iI ((fuS G lc lb k : Nat) : Int)).toInt64
    obtain ⟨A9, a9, b9⟩ := addsPlans_I hw b8
    have h59 : A9.1 53 5 = iI (c : Int) := by rw [b9.2.2.1 5 (by decide) (by decide) (by decide)]; exact h50
    obtain ⟨A10, a10, b10⟩ := b9.ad (iI (c : Int)).toInt64
    obtain ⟨A11, a11, b11⟩ := mcells_loop hw (K := fun M57 => F_X4_digest_L164 (fun M63 => F_X4_digest_L187 (fun M77 => bnd (if (M77.1 55 81) = (-1 : Int32) then (0 : Int64) else (1 : Int64)) fun v78 => obind (F_X4_adds v78 M77) fun M81 => obind (if (M81.1 55 81) = (-1 : Int32) then some M81 else obind (F_X4_adds (M81.1 55 81).toInt64 M81) fun M85 => some M85) fun M83 => obind2 (F_X4_share M83) fun v88 M89 => obind (F_X4_adds (F_Jxe99ae_doubleToLongBits_ccdee v88) M89) fun M93 => obind (F_X4_adds (M93.1 53 2).toInt64 M93) fun M95 => F_X4_digest_L289 (fun M105 => some ((M105.2.1 53 21), M105)) fuelN (0 : Int32) M95) fuelN (0 : Int32) M63) fuelN (0 : Int32) M57) 25 q1 0 _ A10 rfl b10
    obtain ⟨A12, a12, b12⟩ := dgcars_loop hw (K := fun M63 => F_X4_digest_L187 (fun M77 => bnd (if (M77.1 55 81) = (-1 : Int32) then (0 : Int64) else (1 : Int64)) fun v78 => obind (F_X4_adds v78 M77) fun M81 => obind (if (M81.1 55 81) = (-1 : Int32) then some M81 else obind (F_X4_adds (M81.1 55 81).toInt64 M81) fun M85 => some M85) fun M83 => obind2 (F_X4_share M83) fun v88 M89 => obind (F_X4_adds (F_Jxe99ae_doubleToLongBits_ccdee v88) M89) fun M93 => obind (F_X4_adds (M93.1 53 2).toInt64 M93) fun M95 => F_X4_digest_L289 (fun M105 => some ((M105.2.1 53 21), M105)) fuelN (0 : Int32) M95) fuelN (0 : Int32) M63) n q2 0 _ A11 (Nat.zero_add n) b11
    obtain ⟨A13, a13, b13⟩ := mlog_loop hw (K := fun M77 => bnd (if (M77.1 55 81) = (-1 : Int32) then (0 : Int64) else (1 : Int64)) fun v78 => obind (F_X4_adds v78 M77) fun M81 => obind (if (M81.1 55 81) = (-1 : Int32) then some M81 else obind (F_X4_adds (M81.1 55 81).toInt64 M81) fun M85 => some M85) fun M83 => obind2 (F_X4_share M83) fun v88 M89 => obind (F_X4_adds (F_Jxe99ae_doubleToLongBits_ccdee v88) M89) fun M93 => obind (F_X4_adds (M93.1 53 2).toInt64 M93) fun M95 => F_X4_digest_L289 (fun M105 => some ((M105.2.1 53 21), M105)) fuelN (0 : Int32) M95) k q3 0 _ A12 (Nat.zero_add k) b12
    have hstop : ∃ A14, (bnd (if (A13.1 55 81) = (-1 : Int32) then (0 : Int64) else (1 : Int64)) fun v78 => obind (F_X4_adds v78 A13) fun M81 => obind (if (M81.1 55 81) = (-1 : Int32) then some M81 else obind (F_X4_adds (M81.1 55 81).toInt64 M81) fun M85 => some M85) fun M83 => obind2 (F_X4_share M83) fun v88 M89 => obind (F_X4_adds (F_Jxe99ae_doubleToLongBits_ccdee v88) M89) fun M93 => obind (F_X4_adds (M93.1 53 2).toInt64 M93) fun M95 => F_X4_digest_L289 (fun M105 => some ((M105.2.1 53 21), M105)) fuelN (0 : Int32) M95) = (obind2 (F_X4_share A14) fun v88 M89 => obind (F_X4_adds (F_Jxe99ae_doubleToLongBits_ccdee v88) M89) fun M93 => obind (F_X4_adds (M93.1 53 2).toInt64 M93) fun M95 => F_X4_digest_L289 (fun M105 => some ((M105.2.1 53 21), M105)) fuelN (0 : Int32) M95) ∧ DS n w k z L P G lc lb (upI N 53 0 (0 : Int32)) (hStop z (hLog lc lb k 0 (hCars w n k L P G lc lb n 0 (hCells w n L P G 25 0 (mx (hAr w n L P G (hPl w n L P G (hPark w n k L P G lc lb 4507))) (iI (c : Int))))))) A14 := by
      rw [b13.1.vz]
      by_cases e : z = -1
      · obtain ⟨B1, x1, y1⟩ := b13.ad 0
        refine ⟨B1, ?_, ?_⟩
        · rw [e, if_pos (show iI (-1) = (-1 : Int32) from rfl), bnd_v, x1, ob_s, y1.1.vz, e, if_pos (show iI (-1) = (-1 : Int32) from rfl), ob_s]
        · rw [hStop_y e]; exact y1
      · obtain ⟨B1, x1, y1⟩ := b13.ad 1
        obtain ⟨B2, x2, y2⟩ := y1.ad (iI z).toInt64
        have hne : ¬ iI z = (-1 : Int32) := by
          rw [iL_m1, iI_eq (by omega) (by omega) (by omega) (by omega)]; exact e
        refine ⟨B2, ?_, ?_⟩
        · rw [if_neg hne, bnd_v, x1, ob_s, y1.1.vz, if_neg hne, x2, ob_s, ob_s]
        · rw [hStop_n e]; exact y2
    obtain ⟨A14, a14, b14⟩ := hstop
    obtain ⟨A15, a15, b15, c15⟩ := mshare_I b14.1 hw v2 v3
    have d15 := b14.fy b15 c15
    obtain ⟨A16, a16, b16⟩ := d15.ad (F_Jxe99ae_doubleToLongBits_ccdee v)
    have hl16 : A16.1 53 2 = iI (tl : Int) := by rw [b16.2.2.1 2 (by decide) (by decide) (by decide)]; exact hl0
    obtain ⟨A17, a17, b17⟩ := b16.ad (iI (tl : Int)).toInt64
    obtain ⟨A18, a18, b18⟩ := mtext_loop h60 hl0 ht0 (K := fun M105 => some ((M105.2.1 53 21), M105)) tl q4 0 _ A17 (Nat.zero_add tl) b17
    have hn6 : A18.2.1 53 21 = hAll w n k c z L P G lc lb v tl tc := b18.2.2.2.2.2
    refine ⟨A18, ?_, hN0.fr (fun x x1 x2 => b18.2.1 x (by omega)) (fun j hj => b18.2.2.1 j (by omega) (by omega) (by omega)), mo_ref.tr ⟨fun x hx => b18.2.1 x (by omega), b18.2.2.2.1, b18.2.2.2.2.1⟩⟩
    have hm : PkM 55 0 n w k z L P G lc lb N := hN.1
    unfold F_X4_digest
    rw [hm.vn, a1, ob_s, b1.1.vw, bits_I hw.2.1, ob_s, a2, ob_s, occ_I b2.1 hw, ob_s, bits_I hw.oc, ob_s, show (25 : Int32) = iI 25 from rfl, iI_sub, a3, ob_s, misFree_I b3.1 hw, i10_eq0, bnd_v, a4, ob_s, mposs_I b4.1 hw, ob_s, a5, ob_s, b5.1.vk, a6, ob_s, burnt_I b6.1 hw, ob_s, a7, ob_s, burnt_I b7.1 hw, ob_s, a8, ob_s, a9, ob_s, h59, a10, ob_s]
    refine Eq.trans ((congrArg (fun m => F_X4_digest_L123 _ m (iI ((0 : Nat) : Int)) A10) e1).trans a11) ?_
    refine Eq.trans ((congrArg (fun m => F_X4_digest_L164 _ m (iI ((0 : Nat) : Int)) A11) e2).trans a12) ?_
    refine Eq.trans ((congrArg (fun m => F_X4_digest_L187 _ m (iI ((0 : Nat) : Int)) A12) e3).trans a13) ?_
    refine Eq.trans a14 ?_
    rw [a15, ob2_s, a16, ob_s, hl16, a17, ob_s]
    refine Eq.trans ((congrArg (fun m => F_X4_digest_L289 _ m (iI ((0 : Nat) : Int)) A17) e4).trans a18) ?_
    show some (A18.2.1 53 21, A18) = _
    rw [hn6]
