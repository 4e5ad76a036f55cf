/-! ===== calls that change a park, or are refused ===== -/
/-- an exception's number among the answers -/
def xr (j : Nat) : Int := -9999000 - (j : Int)
def oAdd (S : Wst) (l p g : Nat) : Wst := setN (savS S) (xn S + 1, xw S, 0, xz S, updN (xL S) (xn S) l, updN (xP S) (xn S) p, updN (xG S) (xn S) g, xc S, xb S)
def oDrop (S : Wst) : Wst := setN (savS S) (xn S - 1, xw S, 0, xz S, xL S, xP S, xG S, xc S, xb S)
def oWall (S : Wst) (x : Nat) : Wst := setN (savS S) (xn S, xw S ^^^ 2 ^ x, 0, xz S, xL S, xP S, xG S, xc S, xb S)
def oSlide (S : Wst) (i q : Nat) (b : Int) : Wst := setN (savS S) (xn S, xw S, xk S + 1, xz S, xL S, updN (xP S) i q, xG S, updN (xc S) (xk S) i, updZ (xb S) (xk S) b)
def oTake (S : Wst) (q : Nat) : Wst := setN (savS S) (xn S, xw S, xk S - 1, xz S, xL S, updN (xP S) (xc S (xk S - 1)) q, xG S, xc S, xb S)
def oRew (S : Wst) : Wst := setN (savS S) (xn S, xw S, 0, xz S, xL S, rwP (xc S) (xb S) (xk S) (xP S), xG S, xc S, xb S)
def oUndo (S : Wst) : Wst := (sV S (sC S - 1), sK S, sF S, sC S - 1, sV S, sL S, sT S)
def oKeep (S : Wst) : Wst := (sN S, sN S, true, sC S, sV S, sL S, sT S)
def oBack (S : Wst) : Wst := setN (savS S) (sK S)
section SD
variable {S : Wst} {M : Wd}
theorem add_no (h : CI S M) (hW : WI S) {l p g : Int} (l1 : -2147483648 ≤ l) (l2 : l < 2147483648) (p1 : -2147483648 ≤ p) (p2 : p < 2147483648) (g1 : -2147483648 ≤ g) (g2 : g < 2147483648) {j : Nat} (e : tE (xn S) (xw S) (xL S) (xG S) (xP S) l p g = j) (hj : j = 1 ∨ j = 2 ∨ j = 3) : F_L_tryAdd (iI l) (iI p) (iI g) M = some (iI (xr j), M) := by
  unfold F_L_tryAdd F_X3_addCar
  rw [center_t h.pk hW.pk l1 l2 p1 p2 g1 g2, ob_s, e]
  rcases hj with rfl | rfl | rfl <;> rfl
theorem add_y (hW : WI S) {l p g : Nat} (e : tE (xn S) (xw S) (xL S) (xG S) (xP S) (l : Int) (p : Int) (g : Int) = 0) : WI (oAdd S l p g) ∧ Dt S (F_L_tryAdd (iI (l : Int)) (iI (p : Int)) (iI (g : Int))) (iI (xn S : Int)) (oAdd S l p g) := by
  obtain ⟨e1, e2, e3, e4⟩ := tE_0 e
  have hw := hW.pk
  have hn := hw.n6
  rw [Int.toNat_natCast, Int.toNat_natCast, Int.toNat_natCast] at e4
  have hW2 := hW.sav
  refine ⟨hW2.now (wf_enter hw (by omega) (by omega) (by omega) (by omega) (by omega) e4), fun M hC => ?_⟩
  obtain ⟨M1, f1, f2, f3⟩ := csave_I hC hW
  obtain ⟨M2, k1, k2, k3⟩ := enter_I (M := M1) (l := l) (p := p) (g := g) f2.svN (show xn S < 6 by omega)
  refine ⟨M2, ?_, f2.now hW2.2.2.1 k2 k3⟩
  unfold F_L_tryAdd F_X3_addCar
  rw [center_t hC.pk hw (by omega) (by omega) (by omega) (by omega) (by omega) (by omega), ob_s, e]
  show obindX (obindX (F_X3_refuse (iI 0) M) _ _) _ _ = _
  rw [refuse_0, obX_l, f1, ob_s, k1, ob2_s, obX_l]
theorem drop_no (h : CI S M) (e : xn S = 0) : F_L_tryDrop M = some (iI (xr 3), M) := by
  unfold F_L_tryDrop F_X3_dropLast
  rw [h.pk.vn, e]; rfl
theorem drop_y (hW : WI S) (e : 0 < xn S) : WI (oDrop S) ∧ Dt S F_L_tryDrop (iI ((xn S - 1 : Nat) : Int)) (oDrop S) := by
  have hw := hW.pk
  have hn := hw.n6
  have hW2 := hW.sav
  refine ⟨hW2.now (wf_leave hw), fun M hC => ?_⟩
  obtain ⟨M1, f1, f2, f3⟩ := csave_I hC hW
  obtain ⟨M2, k1, k2, k3⟩ := leave_I (M := M1) f2.svN e
  refine ⟨M2, ?_, f2.now hW2.2.2.1 k2 k3⟩
  unfold F_L_tryDrop F_X3_dropLast
  rw [hC.pk.vn, iL_0, if_eq (by omega) (by omega) (by omega) (by omega), if_neg (by omega), f1, ob_s, k1, ob2_s, obX_l]
theorem wall_n1 {c : Int} (c1 : -2147483648 ≤ c) (c2 : c < 2147483648) (e : ¬ (0 ≤ c ∧ c < 25)) : F_L_wall (iI c) M = some (iI (xr 1), M) := by
  unfold F_L_wall F_X3_toggleWall F_X1_troubleOfWall
  rw [isCell_I c1 c2, i10_eq0, if_neg e]; rfl
theorem wall_n3 (h : CI S M) (hW : WI S) {x : Nat} (hx : x < 25) (e : ¬ okT (xn S) (xw S) (xL S) (xP S) (xG S) x = true) : F_L_wall (iI (x : Int)) M = some (iI (xr 3), M) := by
  unfold F_L_wall F_X3_toggleWall
  rw [cwall_t h.pk hW.pk hx, ob_s, if_neg e]; rfl
theorem wall_y (hW : WI S) {x : Nat} (hx : x < 25) (e : okT (xn S) (xw S) (xL S) (xP S) (xG S) x = true) : WI (oWall S x) ∧ Dt S (F_L_wall (iI (x : Int))) (if (xw S ^^^ 2 ^ x).testBit x = true then iI 1 else iI 0) (oWall S x) := by
  have hw := hW.pk
  have hW2 := hW.sav
  have hwf : (xw S).testBit x = true ∨ ∀ j, j < xn S → ¬ (cm (xL S j) (xP S j) (xG S j)).testBit x = true := by
    have e2 := e
    unfold okT at e2
    rw [Bool.or_eq_true, Bool.and_eq_true, decide_eq_true_eq] at e2
    rcases e2 with e2 | e2
    · exact Or.inl e2
    · exact Or.inr (fcar_none e2.1)
  refine ⟨hW2.now (wf_wall hw hx hwf), fun M hC => ?_⟩
  obtain ⟨M1, f1, f2, f3⟩ := csave_I hC hW
  obtain ⟨M2, k1, k2, k3⟩ := turn_I (M := M1) f2.svN hw.2.1 hx
  refine ⟨M2, ?_, f2.now hW2.2.2.1 k2 k3⟩
  unfold F_L_wall F_X3_toggleWall
  rw [cwall_t hC.pk hw hx, ob_s, if_pos e, refuse_0, obX_l, f1, ob_s, k1, ob2_s, obX_l, i10_eq0]
  by_cases e3 : (xw S ^^^ 2 ^ x).testBit x = true
  · rw [if_pos e3, if_pos e3]; rfl
  · rw [if_neg e3, if_neg e3]; rfl
theorem slide_no (h : CI S M) (hW : WI S) {c b : Int} (c1 : -2147483648 ≤ c) (c2 : c < 2147483648) (b1 : -2147483648 ≤ b) (b2 : b < 2147483648) {j : Nat} (e : tS (xn S) (xw S) (xL S) (xG S) (xP S) c b = j) (hj : j = 1 ∨ j = 2 ∨ j = 3) : F_L_trySlide (iI c) (iI b) M = some (iI (xr j), M) := by
  unfold F_L_trySlide F_X3_slide
  rw [cslide_t h.pk hW.pk c1 c2 b1 b2, ob_s, e]
  rcases hj with rfl | rfl | rfl <;> rfl
theorem slide_full (h : CI S M) (hW : WI S) {c b : Int} (c1 : -2147483648 ≤ c) (c2 : c < 2147483648) (b1 : -2147483648 ≤ b) (b2 : b < 2147483648) (e : tS (xn S) (xw S) (xL S) (xG S) (xP S) c b = 0) (e4 : ¬ xk S < 60) : F_L_trySlide (iI c) (iI b) M = some (iI (xr 3), M) := by
  have hk := hW.pk.k60
  unfold F_L_trySlide F_X3_slide
  rw [cslide_t h.pk hW.pk c1 c2 b1 b2, ob_s, e]
  show obindX (obindX (F_X3_refuse (iI 0) M) _ _) _ _ = _
  rw [refuse_0, obX_l, h.pk.vk, show (60 : Int32) = iI 60 from rfl, if_lt (by omega) (by omega) (by omega) (by omega), if_neg (by omega)]; rfl
theorem sl_y (hW : WI S) {i q : Nat} {b : Int} (hi : i < xn S) (b1 : -3 ≤ b) (b2 : b ≤ 3) (b0 : b ≠ 0) (e3 : canS (xw S) (xL S) (xG S) (xP S) (xn S) i b = true) (e4 : xk S < 60) (hq : (q : Int) = (xP S i : Int) + b) : WI (oSlide S i q b) ∧ Dt S (F_L_trySlide (iI (i : Int)) (iI b)) (iI (q : Int)) (oSlide S i q b) := by
  have hw := hW.pk
  have hn := hw.n6
  have hk := hw.k60
  have e : tS (xn S) (xw S) (xL S) (xG S) (xP S) (i : Int) b = 0 := by
    unfold tS
    rw [if_neg (by omega), if_neg (by omega), Int.toNat_natCast, if_pos e3]
  obtain ⟨q', q1, q2, q3, q4⟩ := slide_y hw hi b1 b2 e3
  have hqq : q' = q := by omega
  subst hqq
  have hW2 := hW.sav
  refine ⟨hW2.now (wf_slide hw hi b1 b2 e4 q1 q3), fun M hC => ?_⟩
  obtain ⟨M1, f1, f2, f3⟩ := csave_I hC hW
  obtain ⟨M2, k1, k2, k3⟩ := make_I (M := M1) f2.svN hw hi e4 q1
  refine ⟨M2, ?_, f2.now hW2.2.2.1 k2 k3⟩
  unfold F_L_trySlide F_X3_slide
  rw [cslide_t hC.pk hw (by omega) (by omega) (by omega) (by omega), ob_s, e]
  show obindX (obindX (F_X3_refuse (iI 0) M) _ _) _ _ = _
  rw [refuse_0, obX_l, hC.pk.vk, show (60 : Int32) = iI 60 from rfl, if_lt (by omega) (by omega) (by omega) (by omega), if_pos (by omega), f1, ob_s, k1, ob2_s, obX_l]
theorem take_no (h : CI S M) (e : xk S = 0) : F_L_tryTake M = some (iI (xr 3), M) := by
  unfold F_L_tryTake F_X3_takeBack
  rw [h.pk.vk, e]; rfl
theorem take_y (hW : WI S) (e : 0 < xk S) : ∃ q : Nat, (q : Int) = (xP S (xc S (xk S - 1)) : Int) - xb S (xk S - 1) ∧ xc S (xk S - 1) < xn S ∧ WI (oTake S q) ∧ Dt S F_L_tryTake (iI (xc S (xk S - 1) : Int)) (oTake S q) := by
  obtain ⟨⟨n, w, k, z, L, P, G, lc, lb⟩, kp, kf, c, sv, tl, tc⟩ := S
  have e' : 0 < k := e
  obtain ⟨k, rfl⟩ : ∃ k', k = k' + 1 := ⟨k - 1, by omega⟩
  have hw : PkW n w (k + 1) z L P G lc lb := hW.1
  have hn := hw.n6
  have hk := hw.k60
  obtain ⟨q, q1, q2, q3⟩ := wf_back hw
  have hW2 := hW.sav
  refine ⟨q, q1, q3, hW2.now q2, fun M hC => ?_⟩
  have h : PkC 1 n w (k + 1) z L P G lc lb M := hC.1
  obtain ⟨M1, f1, f2, f3⟩ := csave_I hC hW
  obtain ⟨M2, k1, k2, k3⟩ := unmake_I (M := M1) f2.svN hw q1 q3
  refine ⟨M2, ?_, f2.now hW2.2.2.1 k2 k3⟩
  unfold F_L_tryTake F_X3_takeBack
  rw [h.vk, iL_0, if_eq (by omega) (by omega) (by omega) (by omega), if_neg (by omega), f1, ob_s, k1, ob2_s, obX_l]
  rfl
theorem rew_y (hW : WI S) : WI (oRew S) ∧ Dt S F_X3_rewind (iI (xk S : Int)) (oRew S) := by
  have hw := hW.pk
  have hk := hw.k60
  have hW2 := hW.sav
  refine ⟨hW2.now (wf_rw (xk S) (xP S) hw), fun M hC => ?_⟩
  obtain ⟨p, hp⟩ := fuelS (xk S) (by omega)
  obtain ⟨M1, f1, f2, f3⟩ := csave_I hC hW
  obtain ⟨M2, k1, k2, k3⟩ := crw_loop (K := fun v11 M12 => some (v11, M12)) (xk S) 0 p (xP S) M1 (by omega) f2.svN hw
  refine ⟨M2, ?_, f2.now hW2.2.2.1 k2 k3⟩
  unfold F_X3_rewind
  rw [f1, ob_s, hp, iL_0, show iI 0 = iI ((0 : Nat) : Int) from rfl, k1, Nat.zero_add]
theorem app_no {c : Int} (e : c = 32 ∨ c = 127) : F_L_tryAppend (iI c) M = some (iI (xr 2), M) := by
  rcases e with rfl | rfl <;> rfl
theorem work_no (h : CI S M) (hW : WI S) (e : sL S = 0) : F_L_tryWork M = some (iI (xr 2), M) := by
  have hk := h.tk hW
  have hcm := complete_I hk.2.2.1 hk.2.2.2 hk.1 (fun i hi => by have := hk.2.1 i hi; omega)
  have hc : ¬ cplS (fiA (sL S) (sT S) 0 0) := by rw [e]; unfold fiA; unfold cplS; simp [fiR]
  unfold F_L_tryWork F_X3_work
  rw [hcm.2 hc, ob_s]; rfl
theorem stop_no (h : CI S M) (e : xz S = -1) : F_L_tryStop M = some (iI (xr 3), M) := by
  have h8 := h.pk.2.2.2.1
  rw [if_pos e] at h8
  unfold F_L_tryStop F_X3_stoppedPart
  rw [h8]; rfl
theorem undo_no (h : CI S M) (e : sC S = 0) : F_L_tryUndo M = some (iI (xr 3), M) := by
  unfold F_L_tryUndo F_X3_undo
  rw [h.2.2.2.1, e]; rfl
theorem undo_core (hW : WI S) (e : 0 < sC S) (hC : CI S M) : WI (oUndo S) ∧ ∃ M', F_X3_copy (M.2.2 (sC S - 1)) 1 (upI M 0 5 (iI ((sC S - 1 : Nat) : Int))) = some M' ∧ CI (oUndo S) M' ∧ M'.1 0 5 = iI ((sC S - 1 : Nat) : Int) := by
  obtain ⟨⟨n, w, k, z, L, P, G, lc, lb⟩, kp, kf, c, sv, tl, tc⟩ := S
  have e' : 0 < c := e
  obtain ⟨c', rfl⟩ : ∃ c', c = c' + 1 := ⟨c - 1, by omega⟩
  have hc5 : c' + 1 ≤ 5 := hW.2.2.1
  obtain ⟨a1, a2, a3, a4, a5, a6, a7, a8⟩ := id hC
  have hsv := a6.1 c' (by omega)
  have hpc : pC (M.2.2 c') (sv c') M := a5 c' (show c' < c' + 1 by omega)
  have hpw : pW (sv c') := hW.2.2.2.1 c' (show c' < c' + 1 by omega)
  have hU : ∀ x, x ≠ 0 → (upI M 0 5 (iI (c' : Int))).1 x = M.1 x := fun x hx => upI_row_ne hx
  have hpc2 : pC (M.2.2 c') (sv c') (upI M 0 5 (iI (c' : Int))) := hpc.cells fun j hj => hU _ (by unfold isSv at hsv; omega)
  have ho : ∀ x, ¬ (1 ≤ x ∧ x ≤ 6) → (cpP (upI M 0 5 (iI (c' : Int))) (M.2.2 c') 1).1 x = (upI M 0 5 (iI (c' : Int))).1 x := fun x hx => cpP_out (fun j hj => by omega)
  refine ⟨⟨hpw, hW.2.1, by show c' ≤ 5; omega, fun j hj => hW.2.2.2.1 j (show j < c' + 1 by have : j < c' := hj; omega), hW.2.2.2.2⟩, cpP (upI M 0 5 (iI (c' : Int))) (M.2.2 c') 1, ccopy_I hpc2 hsv.pk rfl, ⟨pC_copy hpc2 hpw (sv_sep1 (Or.inl hsv)), ?_, fun z => ?_, ?_, fun i hi => ?_, a6, ?_, fun i hi => ?_⟩, ?_⟩
  · rw [ho 0 (by omega), upI_at, if_neg (by decide)]; exact a2
  · refine (a3 z).cells fun j hj => ?_
    rw [ho _ (by omega), hU _ (by omega)]
  · rw [ho 0 (by omega), upI_at, if_pos rfl]; rfl
  · have hi' : i < c' := hi
    have hsi := a6.1 i (by omega)
    refine (a5 i (show i < c' + 1 by omega)).cells fun j hj => ?_
    show (cpP (upI M 0 5 (iI (c' : Int))) (M.2.2 c') 1).1 (M.2.2 i + j) = _
    rw [ho _ (by unfold isSv at hsi; omega), hU _ (by unfold isSv at hsi; omega)]
  · rw [ho _ (by omega), hU _ (by omega)]; exact a7
  · rw [ho _ (by omega), hU _ (by omega)]; exact a8 i hi
  · rw [ho 0 (by omega), upI_at, if_pos rfl]; rfl
theorem undo_WI (hW : WI S) (e : 0 < sC S) : WI (oUndo S) :=
  ⟨hW.2.2.2.1 (sC S - 1) (by omega), hW.2.1, by have := hW.2.2.1; show sC S - 1 ≤ 5; omega, fun j hj => hW.2.2.2.1 j (by have : j < sC S - 1 := hj; omega), hW.2.2.2.2⟩
theorem undo_y (hW : WI S) (e : 0 < sC S) : Dt S F_L_tryUndo (iI ((sC S - 1 : Nat) : Int)) (oUndo S) := fun M hC => by
  have hc5 := hW.2.2.1
  have h05 : M.1 0 5 = iI (sC S : Int) := hC.2.2.2.1
  obtain ⟨-, M', m1, m2, m3⟩ := undo_core hW e hC
  refine ⟨M', ?_, m2⟩
  unfold F_L_tryUndo F_X3_undo
  rw [h05, iL_0, if_le (by omega) (by omega) (by omega) (by omega), if_neg (by omega), show (5 : Int32) = iI 5 from rfl, if_le (by omega) (by omega) (by omega) (by omega), if_pos (by omega), iL_1, iI_sub, show (sC S : Int) - 1 = ((sC S - 1 : Nat) : Int) by omega, inb_N (by omega) (by omega), iI_clN (by omega), m1, ob_s, m3]
  rfl
theorem undo_yn (hW : WI S) (e : 0 < sC S) : Dt S F_L_tryUndo_n (iI ((sC S - 1 : Nat) : Int)) (oUndo S) := fun M hC => by
  have hc5 := hW.2.2.1
  have h05 : M.1 0 5 = iI (sC S : Int) := hC.2.2.2.1
  obtain ⟨-, M', m1, m2, m3⟩ := undo_core hW e hC
  refine ⟨M', ?_, m2⟩
  unfold F_L_tryUndo_n F_X3_undo_n
  rw [h05, iL_0, if_le (by omega) (by omega) (by omega) (by omega), if_neg (by omega), show (5 : Int32) = iI 5 from rfl, if_le (by omega) (by omega) (by omega) (by omega), if_pos (by omega), iL_1, iI_sub, show (sC S : Int) - 1 = ((sC S - 1 : Nat) : Int) by omega, inb_N (by omega) (by omega), iI_clN (by omega), m1, ob_s, m3]
  rfl
theorem keep_y (hW : WI S) : WI (oKeep S) ∧ Dt S F_X3_keep (iI (xn S : Int)) (oKeep S) := by
  refine ⟨⟨hW.1, fun _ => hW.1, hW.2.2⟩, fun M hC => ?_⟩
  obtain ⟨a1, a2, a3, a4, a5, a6, a7, a8⟩ := id hC
  have hc5 := hW.2.2.1
  have ho : ∀ x, ¬ (7 ≤ x ∧ x ≤ 12) → (cpP M 1 7).1 x = M.1 x := fun x hx => cpP_out (fun j hj => by omega)
  have hU : ∀ x, x ≠ 0 → (upI (cpP M 1 7) 0 6 (1 : Int32)).1 x = (cpP M 1 7).1 x := fun x hx => upI_row_ne hx
  refine ⟨upI (cpP M 1 7) 0 6 (1 : Int32), ?_, ⟨?_, ?_, fun z => ?_, ?_, fun i hi => ?_, a6, ?_, fun i hi => ?_⟩⟩
  · unfold F_X3_keep
    rw [ccopy_I a1 rfl rfl, ob_s, ho 1 (by omega), hC.pk.vn]
  · refine a1.cells fun j hj => ?_
    rw [hU _ (by omega), ho _ (by omega)]
  · rw [upI_at, if_pos rfl]; rfl
  · refine (pC_copy (a := 7) a1 hW.1 (fun i j hi hj => by omega)).cells fun j hj => ?_
    rw [hU _ (by omega)]
  · rw [upI_at, if_neg (by decide), ho 0 (by omega)]; exact a4
  · have hi' : i < sC S := hi
    have hsi := a6.1 i (by omega)
    refine (a5 i hi).cells fun j hj => ?_
    show (upI (cpP M 1 7) 0 6 (1 : Int32)).1 (M.2.2 i + j) = _
    rw [hU _ (by unfold isSv at hsi; omega), ho _ (by unfold isSv at hsi; omega)]
  · rw [hU _ (by omega), ho _ (by omega)]; exact a7
  · rw [hU _ (by omega), ho _ (by omega)]; exact a8 i hi
theorem back_no (h : CI S M) (e : ¬ sF S = true) : F_L_tryBack M = some (iI (xr 3), M) := by
  have h06 := h.2.1
  unfold F_L_tryBack F_X3_restore
  rw [h06, if_neg e]; rfl
theorem savS_KF : sK (savS S) = sK S ∧ sF (savS S) = sF S := by
  unfold savS
  split <;> exact ⟨rfl, rfl⟩
theorem back_y (hW : WI S) (e : sF S = true) : WI (oBack S) ∧ Dt S F_L_tryBack (iI ((sK S).1 : Int)) (oBack S) := by
  have hW2 := hW.sav
  have hpw : pW (sK S) := hW.2.1 e
  refine ⟨hW2.now hpw, fun M hC => ?_⟩
  have h06 := hC.2.1
  obtain ⟨M1, f1, f2, f3⟩ := csave_I hC hW
  have a3 := f2.2.2.1
  rw [savS_KF.1, savS_KF.2] at a3
  have hp7 := a3 e
  have ho : ∀ x, ¬ (1 ≤ x ∧ x ≤ 6) → (cpP M1 7 1).1 x = M1.1 x := fun x hx => cpP_out (fun j hj => by omega)
  have hfr : frC1 M1 (cpP M1 7 1) := ⟨fun x hx => ho x (by omega), rfl⟩
  have hpn := pC_copy hp7 hpw (sv_sep1 (Or.inr rfl))
  refine ⟨cpP M1 7 1, ?_, f2.now hW2.2.2.1 hpn hfr⟩
  unfold F_L_tryBack F_X3_restore
  rw [h06, if_pos e, if_neg (by decide), f1, ob_s, ccopy_I hp7 rfl rfl, ob_s, obX_l, hpn.1]
end SD
