/-! ===== the digest ===== -/
abbrev mx (h : Int64) (v : Int32) : Int64 := F_X3_mix h v.toInt64
def hCells (w n : Nat) (L P G : Nat → Nat) : Nat → Nat → Int64 → Int64
  | 0, _, h => h
  | r + 1, i, h => hCells w n L P G r (i + 1) (F_X3_mix (mx h (iI (fcar L P G i n 0))) (if w.testBit i = true then (1 : Int64) else (0 : Int64)))
def hCars (w n k : Nat) (L P G lc : Nat → Nat) (lb : Nat → Int) : Nat → Nat → Int64 → Int64
  | 0, _, h => h
  | r + 1, i, h => hCars w n k L P G lc lb r (i + 1) (mx (mx (mx (mx (mx (mx h (iI (L i : Int))) (iI (P i : Int))) (iI (G i : Int))) (iI ((stps lc lb k i : Nat) : Int))) (iI ((rmm w L G P n i true : Nat) : Int))) (iI ((rmm w L G P n i false : Nat) : Int)))
def hLog (lc : Nat → Nat) (lb : Nat → Int) : Nat → Nat → Int64 → Int64
  | 0, _, h => h
  | r + 1, i, h => hLog lc lb r (i + 1) (mx (mx h (iI (lc i : Int))) (iI (lb i)))
def hText (tc : Nat → Nat) : Nat → Nat → Int64 → Int64
  | 0, _, h => h
  | r + 1, i, h => hText tc r (i + 1) (mx h (iI (tc i : Int)))
def hPark (w n k : Nat) (L P G lc : Nat → Nat) (lb : Nat → Int) (h : Int64) : Int64 :=
  mx (mx (mx (mx (F_X3_mix (mx (mx (mx h (iI (n : Int))) (iI ((pc 25 w : Nat) : Int))) (iI (25 - ((pc 25 (ocm w L G P n) : Nat) : Int)))) (if isR n P G = true then (1 : Int64) else (0 : Int64))) (iI ((allR w L G P n n : Nat) : Int))) (iI (k : Int))) (iI ((fuS G lc lb k : Nat) : Int))) (iI ((fuS G lc lb k : Nat) : Int))
noncomputable def hPl (w n : Nat) (L P G : Nat → Nat) (h : Int64) : Int64 :=
  mx (mx (mx (mx (mx h (iI (Aleast w L G n 3 (enc P n)))) (iI (Aend w L G n (enc P n)))) (iI (Aleast w L G n 1 (enc P n)))) (iI (Afuel w L G n (enc P n)))) (iI (Afuel w L G n (enc P n)))
noncomputable def hAr (w n : Nat) (L P G : Nat → Nat) (h : Int64) : Int64 :=
  mx (mx (mx (mx h (iI (Acnt w L G n (enc P n)))) (iI (Aout w L G n (enc P n)))) (iI (Afar w L G n (enc P n)))) (iI ((Aall w L G n : Nat) : Int))
section DG
variable {n w k : Nat} {z : Int} {L P G lc : Nat → Nat} {lb : Nat → Int}
theorem cpark_I {M : Wd} (h : PkC 1 n w k z L P G lc lb M) (hW : PkW n w k z L P G lc lb) {x : Int64} : F_X3_hashOfPark x M = some (hPark w n k L P G lc lb x) := by
  unfold F_X3_hashOfPark F_X3_walls F_X3_isOut F_X3_freeCells
  rw [h.vn, h.vw, h.vk, bitCount_I hW.2.1, taken_I h hW, redOut_I h hW, i10_eq0, poss_I h hW, fuel_I h hW, fuelC_I h hW, ob_s, bitCount_I hW.oc, show (25 : Int32) = iI 25 from rfl, iI_sub]
  rfl
theorem cplans_I {M : Wd} (h : EL w n L G M) (hst : M.1 44 8 = iI ((enc P n : Nat) : Int)) (hv : VV w L G n (enc P n)) {x : Int64} :
    ∃ M', F_X3_hashOfPlans x M = some (hPl w n L P G x, M') ∧ EL w n L G M' ∧ M'.1 44 8 = iI ((enc P n : Nat) : Int) ∧ frX M M' := by
  obtain ⟨M1, a1, a2, a3, a4⟩ := cslides_I h hst hv
  obtain ⟨M2, S, b1, -, -, -, b2, b3, b4⟩ := cends_I a2 a3 hv
  obtain ⟨M3, c1, c2, c3, c4⟩ := csteps_I b2 b3 hv
  obtain ⟨M4, d1, d2, d3, d4⟩ := cbuck_I c2 c3 hv
  obtain ⟨M5, e1, e2, e3, e4⟩ := crnd_I d2 d3 hv
  refine ⟨M5, ?_, e2, e3, (((a4.tr b4).tr c4).tr d4).tr e4⟩
  unfold F_X3_hashOfPlans
  rw [a1, ob2_s, bnd_v, b1, ob2_s, bnd_v, c1, ob2_s, bnd_v, d1, ob2_s, bnd_v, e1, ob2_s]
  rfl
theorem carr_I {M : Wd} {S : SS} (h : EL w n L G M) (h2 : SE n M S) (h4 : SrS w L G n 3 (enc P n) S) {x : Int64} : F_X3_hashOfArrangements x M = some (hAr w n L P G x) := by
  unfold F_X3_hashOfArrangements
  rw [ccnt_I h2 h4, cout_I h h2 h4, cfar_I h h2 h4, call_I h]
  rfl
theorem ccells_loop {M : Wd} (h : PkC 1 n w k z L P G lc lb M) (hW : PkW n w k z L P G lc lb) {ρ : Type} {K : Int64 → Option ρ} : ∀ (r q i : Nat) (x : Int64), i + r = 25 →
    F_X3_hashOfCells_L5 M K (q + 1 + r) x (iI (i : Int)) = K (hCells w n L P G r i x)
  | 0, q, i, x, hr => by
    show (if (25 : Int32) ≤ iI (i : Int) then K x else _) = K x
    rw [show (25 : Int32) = iI 25 from rfl, if_le (by omega) (by omega) (by omega) (by omega), if_pos (by omega)]
  | r + 1, q, i, x, hr => by
    have hw := hW.2.1
    show (if (25 : Int32) ≤ iI (i : Int) then K x else obind (F_X1_carAt (iI (i : Int)) M) fun v2 => bnd (F_X3_mix x v2.toInt64) fun v6 => bnd (if (F_X1_hasWallAt (iI (i : Int)) M) = 0 then (0 : Int64) else (1 : Int64)) fun v9 => bnd (F_X3_mix v6 v9) fun v13 => bnd (iI (i : Int) + (1 : Int32)) fun v15 => F_X3_hashOfCells_L5 M K (q + 1 + r) v13 v15) = _
    rw [show (25 : Int32) = iI 25 from rfl, if_le (by omega) (by omega) (by omega) (by omega), if_neg (by omega), carAt_I h hW (by omega), ob_s, bnd_v, wallAt_I h.vw (by omega) (by omega), i10_eq0, bnd_v, bnd_v, s1_I, bnd_v]
    exact ccells_loop h hW r q (i + 1) _ (by omega)
theorem ccars_loop {M : Wd} (h : PkC 1 n w k z L P G lc lb M) (hW : PkW n w k z L P G lc lb) {ρ : Type} {K : Int64 → Option ρ} : ∀ (r q i : Nat) (x : Int64), i + r = n →
    F_X3_hashOfCars_L5 M K (q + 1 + r) x (iI (i : Int)) = K (hCars w n k L P G lc lb r i x)
  | 0, q, i, x, hr => by
    have hn := hW.n6
    show (if (M.1 1 5) ≤ iI (i : Int) then K x else _) = K x
    rw [h.vn, if_le (by omega) (by omega) (by omega) (by omega), if_pos (by omega)]
  | r + 1, q, i, x, hr => by
    have hn := hW.n6
    have hi : i < n := by omega
    show (if (M.1 1 5) ≤ iI (i : Int) then K x else if (6 : Int32) ≤ iI (i : Int) then K x else ldi (M.1 2) 6 (iI (i : Int)) fun v3 => bnd (F_X3_mix x v3.toInt64) fun v7 => ldi (M.1 3) 6 (iI (i : Int)) fun v9 => bnd (F_X3_mix v7 v9.toInt64) fun v13 => ldi (M.1 4) 6 (iI (i : Int)) fun v15 => bnd (F_X3_mix v13 v15.toInt64) fun v19 => obind (F_X1_loggedSteps (iI (i : Int)) M) fun v21 => bnd (F_X3_mix v19 v21.toInt64) fun v25 => obind (F_X1_roomOf (iI (i : Int)) (1 : Int32) M) fun v27 => bnd (F_X3_mix v25 v27.toInt64) fun v31 => obind (F_X1_roomOf (iI (i : Int)) (-1 : Int32) M) fun v33 => bnd (F_X3_mix v31 v33.toInt64) fun v37 => bnd (iI (i : Int) + (1 : Int32)) fun v39 => F_X3_hashOfCars_L5 M K (q + 1 + r) v37 v39) = _
    have r1 := roomOf_I h hW (f := true) hi
    have r2 := roomOf_I h hW (f := false) hi
    have r1' : F_X1_roomOf (iI (i : Int)) (1 : Int32) M = _ := r1
    have r2' : F_X1_roomOf (iI (i : Int)) (-1 : Int32) M = _ := r2
    rw [h.vn, if_le (by omega) (by omega) (by omega) (by omega), if_neg (by omega), show (6 : Int32) = iI 6 from rfl, if_le (by omega) (by omega) (by omega) (by omega), if_neg (by omega), ldi_N (a := M.1 2) (by omega) (by omega), bnd_v, ldi_N (a := M.1 3) (by omega) (by omega), bnd_v, ldi_N (a := M.1 4) (by omega) (by omega), bnd_v, steps_I h hW (by omega), ob_s, bnd_v, r1', ob_s, bnd_v, r2', ob_s, bnd_v, s1_I, bnd_v, h.vL hi, h.vP hi, h.vG hi]
    exact ccars_loop h hW r q (i + 1) _ (by omega)
theorem clog_loop {M : Wd} (h : PkC 1 n w k z L P G lc lb M) (hW : PkW n w k z L P G lc lb) {ρ : Type} {K : Int64 → Option ρ} : ∀ (r q i : Nat) (x : Int64), i + r = k →
    F_X3_hashOfLog_L5 M K (q + 1 + r) x (iI (i : Int)) = K (hLog lc lb r i x)
  | 0, q, i, x, hr => by
    have hk := hW.k60
    show (if (M.1 1 7) ≤ iI (i : Int) then K x else _) = K x
    rw [h.vk, if_le (by omega) (by omega) (by omega) (by omega), if_pos (by omega)]
  | r + 1, q, i, x, hr => by
    have hk := hW.k60
    have hi : i < k := by omega
    show (if (M.1 1 7) ≤ iI (i : Int) then K x else if (60 : Int32) ≤ iI (i : Int) then K x else ldi (M.1 5) 60 (iI (i : Int)) fun v3 => bnd (F_X3_mix x v3.toInt64) fun v7 => ldi (M.1 6) 60 (iI (i : Int)) fun v9 => bnd (F_X3_mix v7 v9.toInt64) fun v13 => bnd (iI (i : Int) + (1 : Int32)) fun v15 => F_X3_hashOfLog_L5 M K (q + 1 + r) v13 v15) = _
    rw [h.vk, if_le (by omega) (by omega) (by omega) (by omega), if_neg (by omega), show (60 : Int32) = iI 60 from rfl, if_le (by omega) (by omega) (by omega) (by omega), if_neg (by omega), ldi_N (a := M.1 5) (by omega) (by omega), bnd_v, ldi_N (a := M.1 6) (by omega) (by omega), bnd_v, s1_I, bnd_v, h.vlc hi, h.vlb hi]
    exact clog_loop h hW r q (i + 1) _ (by omega)
theorem ctext_loop {M : Wd} {tl : Nat} {tc : Nat → Nat} (h : Tk tl tc M) {ρ : Type} {K : Int64 → Option ρ} : ∀ (r q i : Nat) (x : Int64), i + r = tl →
    F_X3_hashOfText_L16 M K (q + 1 + r) x (iI (i : Int)) = K (hText tc r i x)
  | 0, q, i, x, hr => by
    have h60 := h.1
    show (if (M.1 51 1) ≤ iI (i : Int) then K x else _) = K x
    rw [h.2.2.1, if_le (by omega) (by omega) (by omega) (by omega), if_pos (by omega)]
  | r + 1, q, i, x, hr => by
    have h60 := h.1
    show (if (M.1 51 1) ≤ iI (i : Int) then K x else obind (F_X2_codeAt (iI (i : Int)) M) fun v5 => bnd (F_X3_mix x v5.toInt64) fun v9 => bnd (iI (i : Int) + (1 : Int32)) fun v11 => F_X3_hashOfText_L16 M K (q + 1 + r) v9 v11) = _
    rw [h.2.2.1, if_le (by omega) (by omega) (by omega) (by omega), if_neg (by omega), code_y h (by omega), ob_s, bnd_v, s1_I, bnd_v]
    exact ctext_loop h r q (i + 1) _ (by omega)
end DG
def hStop (z : Int) (x : Int64) : Int64 := if z = -1 then F_X3_mix x 0 else mx (F_X3_mix x 1) (iI z)
theorem hStop_y {z : Int} (e : z = -1) (x : Int64) : hStop z x = F_X3_mix x 0 := if_pos e
theorem hStop_n {z : Int} (e : ¬ z = -1) (x : Int64) : hStop z x = mx (F_X3_mix x 1) (iI z) := if_neg e
/-- the digest's number -/
noncomputable def hAll (w n k c : Nat) (z : Int) (L P G lc : Nat → Nat) (lb : Nat → Int) (v : UInt64) (tl : Nat) (tc : Nat → Nat) : Int64 :=
  hText tc tl 0 (mx (F_X3_mix (hStop z (hLog lc lb k 0 (hCars w n k L P G lc lb n 0 (hCells w n L P G 25 0 (mx (hAr w n L P G (hPl w n L P G (hPark w n k L P G lc lb 4507))) (iI (c : Int))))))) v.toInt64) (iI (tl : Int)))
