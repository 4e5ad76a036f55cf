/-! ===== a park's calls by its state: what they answer, and the state behind them ===== -/
abbrev xn (S : Wst) : Nat := S.1.1
abbrev xw (S : Wst) : Nat := S.1.2.1
abbrev xk (S : Wst) : Nat := S.1.2.2.1
abbrev xz (S : Wst) : Int := S.1.2.2.2.1
abbrev xL (S : Wst) : Nat → Nat := S.1.2.2.2.2.1
abbrev xP (S : Wst) : Nat → Nat := S.1.2.2.2.2.2.1
abbrev xG (S : Wst) : Nat → Nat := S.1.2.2.2.2.2.2.1
abbrev xc (S : Wst) : Nat → Nat := S.1.2.2.2.2.2.2.2.1
abbrev xb (S : Wst) : Nat → Int := S.1.2.2.2.2.2.2.2.2
theorem WI.pk {S : Wst} (h : WI S) : PkW (xn S) (xw S) (xk S) (xz S) (xL S) (xP S) (xG S) (xc S) (xb S) := h.1
theorem CI.pk {S : Wst} {M : Wd} (h : CI S M) : PkC 1 (xn S) (xw S) (xk S) (xz S) (xL S) (xP S) (xG S) (xc S) (xb S) M := h.1
/-- from every world of S: F answers v, and leads to a world of S' -/
def Dt {α : Type} (S : Wst) (F : Wd → Option (α × Wd)) (v : α) (S' : Wst) : Prop := ∀ M, CI S M → ∃ M', F M = some (v, M') ∧ CI S' M'
/-- F looks, and answers v -/
def Lk {α : Type} (S : Wst) (F : Wd → Option α) (v : α) : Prop := ∀ M, CI S M → F M = some v
theorem Lk.dt {α : Type} {S : Wst} {F : Wd → Option α} {v : α} (h : Lk S F v) : Dt S (fun M => obind (F M) fun v => some (v, M)) v S := fun M hM => ⟨M, by show obind (F M) _ = _; rw [h M hM, ob_s], hM⟩
theorem ob2_id {α β : Type} (x : Option (α × β)) : (obind2 x fun v M => some (v, M)) = x := by
  cases x <;> rfl
section SC
variable {S : Wst} {M : Wd}
theorem lk_cars (h : CI S M) : F_X3_cars M = iI (xn S : Int) := by unfold F_X3_cars; rw [h.pk.vn]
theorem lk_walls (h : CI S M) (hW : WI S) : F_X3_walls M = iI ((pc 25 (xw S) : Nat) : Int) := by unfold F_X3_walls; rw [h.pk.vw, bitCount_I hW.pk.2.1]
theorem lk_logged (h : CI S M) : F_X3_logged M = iI (xk S : Int) := by unfold F_X3_logged; rw [h.pk.vk]
theorem lk_saved (h : CI S M) : F_X3_savedStates M = iI (sC S : Int) := by unfold F_X3_savedStates; rw [h.2.2.2.1]
theorem lk_isOut (h : CI S M) (hW : WI S) : F_X3_isOut M = if isR (xn S) (xP S) (xG S) = true then iI 1 else iI 0 := by unfold F_X3_isOut; rw [redOut_I h.pk hW.pk]
theorem lk_fuel (h : CI S M) (hW : WI S) : F_X3_fuel M = some (iI ((fuS (xG S) (xc S) (xb S) (xk S) : Nat) : Int)) := by unfold F_X3_fuel; rw [fuel_I h.pk hW.pk]; rfl
theorem lk_fuelC (h : CI S M) (hW : WI S) : F_X3_fuelByCars M = some (iI ((fuS (xG S) (xc S) (xb S) (xk S) : Nat) : Int)) := by unfold F_X3_fuelByCars; rw [fuelC_I h.pk hW.pk]; rfl
theorem lk_free (h : CI S M) (hW : WI S) : F_X3_freeCells M = some (iI (25 - ((pc 25 (ocm (xw S) (xL S) (xG S) (xP S) (xn S)) : Nat) : Int))) := by
  unfold F_X3_freeCells
  rw [taken_I h.pk hW.pk, ob_s, bitCount_I hW.pk.oc, show (25 : Int32) = iI 25 from rfl, iI_sub]
theorem lk_poss (h : CI S M) (hW : WI S) : F_X3_possibleSlides M = some (iI ((allR (xw S) (xL S) (xG S) (xP S) (xn S) (xn S) : Nat) : Int)) := poss_I h.pk hW.pk
theorem hasC (h : CI S M) (hW : WI S) {c : Int} (c1 : -2147483648 ≤ c) (c2 : c < 2147483648) : F_X1_hasCar (iI c) M = if 0 ≤ c ∧ c < (xn S : Int) then iI 1 else iI 0 := hasCar_I h.pk hW.pk c1 c2
theorem hasS (h : CI S M) (hW : WI S) {c : Int} (c1 : -2147483648 ≤ c) (c2 : c < 2147483648) : F_X1_hasSlide (iI c) M = if 0 ≤ c ∧ c < (xk S : Int) then iI 1 else iI 0 := hasSlide_I h.pk hW.pk c1 c2
/-! laneOf, placeOf, lengthOf, stepsOf, the log -/
theorem car_ex {c : Int} {n : Nat} (e : 0 ≤ c ∧ c < (n : Int)) : ∃ i : Nat, c = (i : Int) ∧ i < n := ⟨c.toNat, by omega, by omega⟩
theorem tl_y (h : CI S M) (hW : WI S) {i : Nat} (hi : i < xn S) : F_L_tryLane (iI (i : Int)) M = some (iI (xL S i : Int), M) := by
  have hn := hW.pk.n6
  unfold F_L_tryLane F_X3_laneOf
  rw [hasC h hW (by omega) (by omega), i10_eq0, if_pos (by omega), ldi_N (by omega) (by omega), h.pk.vL hi]; rfl
theorem tl_n (h : CI S M) (hW : WI S) {c : Int} (c1 : -2147483648 ≤ c) (c2 : c < 2147483648) (e : ¬ (0 ≤ c ∧ c < (xn S : Int))) : F_L_tryLane (iI c) M = some (iI (-9999001), M) := by
  unfold F_L_tryLane F_X3_laneOf
  rw [hasC h hW c1 c2, i10_eq0, if_neg e]; rfl
theorem tlN (h : CI S M) (hW : WI S) {i : Nat} (hi : i < xn S) : F_L_tryLane_n (iI (i : Int)) M = some (iI (xL S i : Int)) := by
  have hn := hW.pk.n6
  unfold F_L_tryLane_n F_X3_laneOf_n
  rw [hasC h hW (by omega) (by omega), i10_eq0, if_pos (by omega), ldi_N (by omega) (by omega), h.pk.vL hi]; rfl
theorem tp_y (h : CI S M) (hW : WI S) {i : Nat} (hi : i < xn S) : F_L_tryPlace (iI (i : Int)) M = some (iI (xP S i : Int), M) := by
  have hn := hW.pk.n6
  unfold F_L_tryPlace F_X3_placeOf
  rw [hasC h hW (by omega) (by omega), i10_eq0, if_pos (by omega), ldi_N (by omega) (by omega), h.pk.vP hi]; rfl
theorem tp_n (h : CI S M) (hW : WI S) {c : Int} (c1 : -2147483648 ≤ c) (c2 : c < 2147483648) (e : ¬ (0 ≤ c ∧ c < (xn S : Int))) : F_L_tryPlace (iI c) M = some (iI (-9999001), M) := by
  unfold F_L_tryPlace F_X3_placeOf
  rw [hasC h hW c1 c2, i10_eq0, if_neg e]; rfl
theorem tpN (h : CI S M) (hW : WI S) {i : Nat} (hi : i < xn S) : F_L_tryPlace_n (iI (i : Int)) M = some (iI (xP S i : Int)) := by
  have hn := hW.pk.n6
  unfold F_L_tryPlace_n F_X3_placeOf_n
  rw [hasC h hW (by omega) (by omega), i10_eq0, if_pos (by omega), ldi_N (by omega) (by omega), h.pk.vP hi]; rfl
theorem tg_y (h : CI S M) (hW : WI S) {i : Nat} (hi : i < xn S) : F_L_tryLength (iI (i : Int)) M = some (iI (xG S i : Int), M) := by
  have hn := hW.pk.n6
  unfold F_L_tryLength F_X3_lengthOf
  rw [hasC h hW (by omega) (by omega), i10_eq0, if_pos (by omega), ldi_N (by omega) (by omega), h.pk.vG hi]; rfl
theorem tg_n (h : CI S M) (hW : WI S) {c : Int} (c1 : -2147483648 ≤ c) (c2 : c < 2147483648) (e : ¬ (0 ≤ c ∧ c < (xn S : Int))) : F_L_tryLength (iI c) M = some (iI (-9999001), M) := by
  unfold F_L_tryLength F_X3_lengthOf
  rw [hasC h hW c1 c2, i10_eq0, if_neg e]; rfl
theorem tgN (h : CI S M) (hW : WI S) {i : Nat} (hi : i < xn S) : F_L_tryLength_n (iI (i : Int)) M = some (iI (xG S i : Int)) := by
  have hn := hW.pk.n6
  unfold F_L_tryLength_n F_X3_lengthOf_n
  rw [hasC h hW (by omega) (by omega), i10_eq0, if_pos (by omega), ldi_N (by omega) (by omega), h.pk.vG hi]; rfl
theorem ts_y (h : CI S M) (hW : WI S) {i : Nat} (hi : i < xn S) : F_L_trySteps (iI (i : Int)) M = some (iI ((stps (xc S) (xb S) (xk S) i : Nat) : Int), M) := by
  have hn := hW.pk.n6
  unfold F_L_trySteps F_X3_stepsOf
  rw [hasC h hW (by omega) (by omega), i10_eq0, if_pos (by omega), steps_I h.pk hW.pk (by omega)]; rfl
theorem ts_n (h : CI S M) (hW : WI S) {c : Int} (c1 : -2147483648 ≤ c) (c2 : c < 2147483648) (e : ¬ (0 ≤ c ∧ c < (xn S : Int))) : F_L_trySteps (iI c) M = some (iI (-9999001), M) := by
  unfold F_L_trySteps F_X3_stepsOf
  rw [hasC h hW c1 c2, i10_eq0, if_neg e]; rfl
theorem tsN (h : CI S M) (hW : WI S) {i : Nat} (hi : i < xn S) : F_L_trySteps_n (iI (i : Int)) M = some (iI ((stps (xc S) (xb S) (xk S) i : Nat) : Int)) := by
  have hn := hW.pk.n6
  unfold F_L_trySteps_n F_X3_stepsOf_n
  rw [hasC h hW (by omega) (by omega), i10_eq0, if_pos (by omega), steps_I h.pk hW.pk (by omega)]; rfl
theorem tc_y (h : CI S M) (hW : WI S) {i : Nat} (hi : i < xk S) : F_L_tryLogCar (iI (i : Int)) M = some (iI (xc S i : Int), M) := by
  have hk := hW.pk.k60
  unfold F_L_tryLogCar F_X3_carOfSlide
  rw [hasS h hW (by omega) (by omega), i10_eq0, if_pos (by omega), ldi_N (by omega) (by omega), h.pk.vlc hi]; rfl
theorem tc_n (h : CI S M) (hW : WI S) {c : Int} (c1 : -2147483648 ≤ c) (c2 : c < 2147483648) (e : ¬ (0 ≤ c ∧ c < (xk S : Int))) : F_L_tryLogCar (iI c) M = some (iI (-9999001), M) := by
  unfold F_L_tryLogCar F_X3_carOfSlide
  rw [hasS h hW c1 c2, i10_eq0, if_neg e]; rfl
theorem tcN (h : CI S M) (hW : WI S) {i : Nat} (hi : i < xk S) : F_L_tryLogCar_n (iI (i : Int)) M = some (iI (xc S i : Int)) := by
  have hk := hW.pk.k60
  unfold F_L_tryLogCar_n F_X3_carOfSlide_n
  rw [hasS h hW (by omega) (by omega), i10_eq0, if_pos (by omega), ldi_N (by omega) (by omega), h.pk.vlc hi]; rfl
theorem tb_y (h : CI S M) (hW : WI S) {i : Nat} (hi : i < xk S) : F_L_tryLogBy (iI (i : Int)) M = some (iI (xb S i), M) := by
  have hk := hW.pk.k60
  unfold F_L_tryLogBy F_X3_changeBySlide
  rw [hasS h hW (by omega) (by omega), i10_eq0, if_pos (by omega), ldi_N (by omega) (by omega), h.pk.vlb hi]; rfl
theorem tb_n (h : CI S M) (hW : WI S) {c : Int} (c1 : -2147483648 ≤ c) (c2 : c < 2147483648) (e : ¬ (0 ≤ c ∧ c < (xk S : Int))) : F_L_tryLogBy (iI c) M = some (iI (-9999001), M) := by
  unfold F_L_tryLogBy F_X3_changeBySlide
  rw [hasS h hW c1 c2, i10_eq0, if_neg e]; rfl
theorem tbN (h : CI S M) (hW : WI S) {i : Nat} (hi : i < xk S) : F_L_tryLogBy_n (iI (i : Int)) M = some (iI (xb S i)) := by
  have hk := hW.pk.k60
  unfold F_L_tryLogBy_n F_X3_changeBySlide_n
  rw [hasS h hW (by omega) (by omega), i10_eq0, if_pos (by omega), ldi_N (by omega) (by omega), h.pk.vlb hi]; rfl
/-! cells -/
theorem to_y (h : CI S M) (hW : WI S) {x : Nat} (hx : x < 25) : F_L_tryOn (iI (x : Int)) M = some (iI (fcar (xL S) (xP S) (xG S) x (xn S) 0), M) := by
  unfold F_L_tryOn F_X3_carOn
  rw [isCell_I (by omega) (by omega), i10_eq0, if_pos (by omega), carAt_I h.pk hW.pk hx]; rfl
theorem to_n {c : Int} (c1 : -2147483648 ≤ c) (c2 : c < 2147483648) (e : ¬ (0 ≤ c ∧ c < 25)) : F_L_tryOn (iI c) M = some (iI (-9999001), M) := by
  unfold F_L_tryOn F_X3_carOn
  rw [isCell_I c1 c2, i10_eq0, if_neg e]; rfl
theorem toN (h : CI S M) (hW : WI S) {x : Nat} (hx : x < 25) : F_L_tryOn_n (iI (x : Int)) M = some (iI (fcar (xL S) (xP S) (xG S) x (xn S) 0)) := by
  unfold F_L_tryOn_n F_X3_carOn_n
  rw [isCell_I (by omega) (by omega), i10_eq0, if_pos (by omega), carAt_I h.pk hW.pk hx]; rfl
theorem iw_y (h : CI S M) (hW : WI S) {x : Nat} (hx : x < 25) : F_L_isWall (iI (x : Int)) M = some (if (xw S).testBit x = true then iI 1 else iI 0, M) := by
  have hw := hW.pk.2.1
  unfold F_L_isWall F_X3_isWall
  rw [isCell_I (by omega) (by omega), i10_eq0, if_pos (by omega), wallAt_I h.pk.vw (by omega) hx, obX_l, i10_eq0]
  by_cases e : (xw S).testBit x = true
  · rw [if_pos e, if_pos e]; rfl
  · rw [if_neg e, if_neg e]; rfl
theorem iw_n {c : Int} (c1 : -2147483648 ≤ c) (c2 : c < 2147483648) (e : ¬ (0 ≤ c ∧ c < 25)) : F_L_isWall (iI c) M = some (iI (-9999001), M) := by
  unfold F_L_isWall F_X3_isWall
  rw [isCell_I c1 c2, i10_eq0, if_neg e]; rfl
theorem iwN (h : CI S M) (hW : WI S) {x : Nat} (hx : x < 25) : F_L_isWall_n (iI (x : Int)) M = some (if (xw S).testBit x = true then iI 1 else iI 0) := by
  have hw := hW.pk.2.1
  unfold F_L_isWall_n F_X3_isWall_n
  rw [isCell_I (by omega) (by omega), i10_eq0, if_pos (by omega), wallAt_I h.pk.vw (by omega) hx, ob_s, i10_eq0]
  by_cases e : (xw S).testBit x = true
  · rw [if_pos e, if_pos e]; rfl
  · rw [if_neg e, if_neg e]; rfl
/-! rooms -/
theorem rm_b (f : Bool) : (if (if f = true then (1 : Int32) else (0 : Int32)) = 0 then (-1 : Int32) else (1 : Int32)) = iI (sgn f) := by cases f <;> rfl
theorem rm_y (h : CI S M) (hW : WI S) {i : Nat} (hi : i < xn S) (f : Bool) : F_L_room (iI (i : Int)) (if f = true then (1 : Int32) else (0 : Int32)) M = some (iI ((rmm (xw S) (xL S) (xG S) (xP S) (xn S) i f : Nat) : Int), M) := by
  have hn := hW.pk.n6
  unfold F_L_room F_X3_room
  rw [hasC h hW (by omega) (by omega), i10_eq0, if_pos (by omega), bnd_v, rm_b, roomOf_I h.pk hW.pk hi]; rfl
theorem rm_n (h : CI S M) (hW : WI S) {c : Int} {v : Int32} (c1 : -2147483648 ≤ c) (c2 : c < 2147483648) (e : ¬ (0 ≤ c ∧ c < (xn S : Int))) : F_L_room (iI c) v M = some (iI (-9999001), M) := by
  unfold F_L_room F_X3_room
  rw [hasC h hW c1 c2, i10_eq0, if_neg e]; rfl
theorem rmN (h : CI S M) (hW : WI S) {i : Nat} (hi : i < xn S) (f : Bool) : F_L_room_n (iI (i : Int)) (if f = true then (1 : Int32) else (0 : Int32)) M = some (iI ((rmm (xw S) (xL S) (xG S) (xP S) (xn S) i f : Nat) : Int)) := by
  have hn := hW.pk.n6
  unfold F_L_room_n F_X3_room_n
  rw [hasC h hW (by omega) (by omega), i10_eq0, if_pos (by omega), bnd_v, rm_b, roomOf_I h.pk hW.pk hi]; rfl
end SC
/-! the calls by their numbers -/
section CN
variable {a b c : Int32} {M : Wd}
theorem cn_0 : F_L_call 0 a b c M = F_L_tryAdd a b c M := ob2_id _
theorem cn_1 : F_L_call 1 a b c M = F_L_tryDrop M := ob2_id _
theorem cn_2 : F_L_call 2 a b c M = F_L_trySlide a b M := ob2_id _
theorem cn_3 : F_L_call 3 a b c M = F_L_tryTake M := ob2_id _
theorem cn_4 : F_L_call 4 a b c M = F_L_tryDrive M := ob2_id _
theorem cn_5 : F_L_call 5 a b c M = F_L_tryAppend a M := ob2_id _
theorem cn_6 : F_L_call 6 a b c M = F_L_tryWork M := ob2_id _
theorem cn_7 : F_L_call 7 a b c M = F_L_tryStop M := ob2_id _
theorem cn_8 : F_L_call 8 a b c M = F_L_tryUndo M := ob2_id _
theorem cn_9 : F_L_call 9 a b c M = F_L_tryBack M := ob2_id _
theorem cn_10 : F_L_call 10 a b c M = F_L_tryLane a M := ob2_id _
theorem cn_11 : F_L_call 11 a b c M = F_L_tryPlace a M := ob2_id _
theorem cn_12 : F_L_call 12 a b c M = F_L_tryLength a M := ob2_id _
theorem cn_13 : F_L_call 13 a b c M = F_L_tryOn a M := ob2_id _
theorem cn_14 : F_L_call 14 a b c M = F_L_tryLogCar a M := ob2_id _
theorem cn_15 : F_L_call 15 a b c M = F_L_tryLogBy a M := ob2_id _
theorem cn_16 : F_L_call 16 a b c M = F_L_trySteps a M := ob2_id _
theorem cn_17 : F_L_call 17 a b c M = F_L_tryNext M := ob2_id _
theorem cn_18 : F_L_call 18 a b c M = F_L_tryChange M := ob2_id _
theorem cn_19 : F_L_call 19 a b c M = F_L_tryBehind a b M := ob2_id _
theorem cn_20 : F_L_call 20 a b c M = F_L_tryWithout M := ob2_id _
theorem cn_21 : F_L_call 21 a b c M = F_L_tryWithWall a M := ob2_id _
theorem cnn_8 : F_L_call_n 8 a b c M = F_L_tryUndo_n M := ob2_id _
theorem cnn_10 : F_L_call_n 10 a b c M = obind (F_L_tryLane_n a M) fun v => some (v, M) := rfl
theorem cnn_11 : F_L_call_n 11 a b c M = obind (F_L_tryPlace_n a M) fun v => some (v, M) := rfl
theorem cnn_12 : F_L_call_n 12 a b c M = obind (F_L_tryLength_n a M) fun v => some (v, M) := rfl
theorem cnn_13 : F_L_call_n 13 a b c M = obind (F_L_tryOn_n a M) fun v => some (v, M) := rfl
theorem cnn_14 : F_L_call_n 14 a b c M = obind (F_L_tryLogCar_n a M) fun v => some (v, M) := rfl
theorem cnn_15 : F_L_call_n 15 a b c M = obind (F_L_tryLogBy_n a M) fun v => some (v, M) := rfl
theorem cnn_16 : F_L_call_n 16 a b c M = obind (F_L_trySteps_n a M) fun v => some (v, M) := rfl
end CN
