/-! ===== what is done with a park ===== -/
theorem rem_I {a k : Nat} (ha : a < 2147483648) (hk : 0 < k) (hk2 : k < 2147483648) : iI (a : Int) - iI (a : Int) / iI (k : Int) * iI (k : Int) = iI ((a % k : Nat) : Int) := by
  rw [iI_div a k ha hk hk2, iI_mul, iI_sub]
  congr 1
  have h := Nat.div_add_mod a k
  have h2 : ((a / k : Nat) : Int) * (k : Int) = ((k * (a / k) : Nat) : Int) := by rw [Nat.mul_comm]; rfl
  rw [h2]
  omega
theorem rem_2 {a : Nat} (ha : a < 2147483648) : iI (a : Int) - iI (a : Int) / (2 : Int32) * (2 : Int32) = iI ((a % 2 : Nat) : Int) := rem_I (k := 2) ha (by decide) (by decide)
theorem div_2 {a : Nat} (ha : a < 2147483648) : iI (a : Int) / (2 : Int32) = iI ((a / 2 : Nat) : Int) := iI_div a 2 ha (by decide) (by decide)
theorem rem_3 {a : Nat} (ha : a < 2147483648) : iI (a : Int) - iI (a : Int) / (3 : Int32) * (3 : Int32) = iI ((a % 3 : Nat) : Int) := rem_I (k := 3) ha (by decide) (by decide)
theorem div_3 {a : Nat} (ha : a < 2147483648) : iI (a : Int) / (3 : Int32) = iI ((a / 3 : Nat) : Int) := iI_div a 3 ha (by decide) (by decide)
theorem rem_4 {a : Nat} (ha : a < 2147483648) : iI (a : Int) - iI (a : Int) / (4 : Int32) * (4 : Int32) = iI ((a % 4 : Nat) : Int) := rem_I (k := 4) ha (by decide) (by decide)
theorem div_4 {a : Nat} (ha : a < 2147483648) : iI (a : Int) / (4 : Int32) = iI ((a / 4 : Nat) : Int) := iI_div a 4 ha (by decide) (by decide)
theorem rem_5 {a : Nat} (ha : a < 2147483648) : iI (a : Int) - iI (a : Int) / (5 : Int32) * (5 : Int32) = iI ((a % 5 : Nat) : Int) := rem_I (k := 5) ha (by decide) (by decide)
theorem div_5 {a : Nat} (ha : a < 2147483648) : iI (a : Int) / (5 : Int32) = iI ((a / 5 : Nat) : Int) := iI_div a 5 ha (by decide) (by decide)
theorem rem_9 {a : Nat} (ha : a < 2147483648) : iI (a : Int) - iI (a : Int) / (9 : Int32) * (9 : Int32) = iI ((a % 9 : Nat) : Int) := rem_I (k := 9) ha (by decide) (by decide)
theorem div_9 {a : Nat} (ha : a < 2147483648) : iI (a : Int) / (9 : Int32) = iI ((a / 9 : Nat) : Int) := iI_div a 9 ha (by decide) (by decide)
theorem rem_10 {a : Nat} (ha : a < 2147483648) : iI (a : Int) - iI (a : Int) / (10 : Int32) * (10 : Int32) = iI ((a % 10 : Nat) : Int) := rem_I (k := 10) ha (by decide) (by decide)
theorem div_10 {a : Nat} (ha : a < 2147483648) : iI (a : Int) / (10 : Int32) = iI ((a / 10 : Nat) : Int) := iI_div a 10 ha (by decide) (by decide)
theorem rem_16 {a : Nat} (ha : a < 2147483648) : iI (a : Int) - iI (a : Int) / (16 : Int32) * (16 : Int32) = iI ((a % 16 : Nat) : Int) := rem_I (k := 16) ha (by decide) (by decide)
theorem div_16 {a : Nat} (ha : a < 2147483648) : iI (a : Int) / (16 : Int32) = iI ((a / 16 : Nat) : Int) := iI_div a 16 ha (by decide) (by decide)
theorem rem_20 {a : Nat} (ha : a < 2147483648) : iI (a : Int) - iI (a : Int) / (20 : Int32) * (20 : Int32) = iI ((a % 20 : Nat) : Int) := rem_I (k := 20) ha (by decide) (by decide)
theorem div_20 {a : Nat} (ha : a < 2147483648) : iI (a : Int) / (20 : Int32) = iI ((a / 20 : Nat) : Int) := iI_div a 20 ha (by decide) (by decide)
theorem rem_25 {a : Nat} (ha : a < 2147483648) : iI (a : Int) - iI (a : Int) / (25 : Int32) * (25 : Int32) = iI ((a % 25 : Nat) : Int) := rem_I (k := 25) ha (by decide) (by decide)
theorem div_25 {a : Nat} (ha : a < 2147483648) : iI (a : Int) / (25 : Int32) = iI ((a / 25 : Nat) : Int) := iI_div a 25 ha (by decide) (by decide)
theorem rem_99 {a : Nat} (ha : a < 2147483648) : iI (a : Int) - iI (a : Int) / (99 : Int32) * (99 : Int32) = iI ((a % 99 : Nat) : Int) := rem_I (k := 99) ha (by decide) (by decide)
theorem div_99 {a : Nat} (ha : a < 2147483648) : iI (a : Int) / (99 : Int32) = iI ((a / 99 : Nat) : Int) := iI_div a 99 ha (by decide) (by decide)
theorem rem_8 {a : Nat} (ha : a < 2147483648) : iI (a : Int) - iI (a : Int) / (8 : Int32) * (8 : Int32) = iI ((a % 8 : Nat) : Int) := rem_I (k := 8) ha (by decide) (by decide)
theorem div_8 {a : Nat} (ha : a < 2147483648) : iI (a : Int) / (8 : Int32) = iI ((a / 8 : Nat) : Int) := iI_div a 8 ha (by decide) (by decide)
theorem rem_7 {a : Nat} (ha : a < 2147483648) : iI (a : Int) - iI (a : Int) / (7 : Int32) * (7 : Int32) = iI ((a % 7 : Nat) : Int) := rem_I (k := 7) ha (by decide) (by decide)
theorem div_7 {a : Nat} (ha : a < 2147483648) : iI (a : Int) / (7 : Int32) = iI ((a / 7 : Nat) : Int) := iI_div a 7 ha (by decide) (by decide)
theorem rem_1000 {a : Nat} (ha : a < 2147483648) : iI (a : Int) - iI (a : Int) / (1000 : Int32) * (1000 : Int32) = iI ((a % 1000 : Nat) : Int) := rem_I (k := 1000) ha (by decide) (by decide)
theorem div_1000 {a : Nat} (ha : a < 2147483648) : iI (a : Int) / (1000 : Int32) = iI ((a / 1000 : Nat) : Int) := iI_div a 1000 ha (by decide) (by decide)
theorem rem_100000 {a : Nat} (ha : a < 2147483648) : iI (a : Int) - iI (a : Int) / (100000 : Int32) * (100000 : Int32) = iI ((a % 100000 : Nat) : Int) := rem_I (k := 100000) ha (by decide) (by decide)
theorem div_100000 {a : Nat} (ha : a < 2147483648) : iI (a : Int) / (100000 : Int32) = iI ((a / 100000 : Nat) : Int) := iI_div a 100000 ha (by decide) (by decide)
theorem rem_21 {a : Nat} (ha : a < 2147483648) : iI (a : Int) - iI (a : Int) / (21 : Int32) * (21 : Int32) = iI ((a % 21 : Nat) : Int) := rem_I (k := 21) ha (by decide) (by decide)
theorem div_21 {a : Nat} (ha : a < 2147483648) : iI (a : Int) / (21 : Int32) = iI ((a / 21 : Nat) : Int) := iI_div a 21 ha (by decide) (by decide)
section AC
variable {S : Wst}
theorem add_ex (hW : WI S) (hL : LW S) {l p g : Nat} (l1 : l < 1000) (p1 : p < 1000) (g1 : g < 1000) : ∃ v S', WI S' ∧ LW S' ∧ Dt S (F_L_tryAdd (iI (l : Int)) (iI (p : Int)) (iI (g : Int))) v S' := by
  rcases tE_3 (n := xn S) (w := xw S) (L := xL S) (G := xG S) (P := xP S) (l := (l : Int)) (p := (p : Int)) (g := (g : Int)) with e | e | e | e
  · have h := add_y hW e
    exact ⟨_, _, h.1, hL.add e, h.2⟩
  · exact ⟨_, S, hW, hL, fun M hC => ⟨M, add_no hC hW (by omega) (by omega) (by omega) (by omega) (by omega) (by omega) e (by omega), hC⟩⟩
  · exact ⟨_, S, hW, hL, fun M hC => ⟨M, add_no hC hW (by omega) (by omega) (by omega) (by omega) (by omega) (by omega) e (by omega), hC⟩⟩
  · exact ⟨_, S, hW, hL, fun M hC => ⟨M, add_no hC hW (by omega) (by omega) (by omega) (by omega) (by omega) (by omega) e (by omega), hC⟩⟩
theorem drop_ex (hW : WI S) (hL : LW S) : ∃ v S', WI S' ∧ LW S' ∧ Dt S F_L_tryDrop v S' := by
  by_cases e : xn S = 0
  · exact ⟨_, S, hW, hL, fun M hC => ⟨M, drop_no hC e, hC⟩⟩
  · have h := drop_y hW (show 0 < xn S by omega)
    exact ⟨_, _, h.1, hL.drop, h.2⟩
theorem wall_ex (hW : WI S) (hL : LW S) {x : Nat} (hx : x < 25) : ∃ v S', WI S' ∧ LW S' ∧ Dt S (F_L_wall (iI (x : Int))) v S' := by
  by_cases e : okT (xn S) (xw S) (xL S) (xP S) (xG S) x = true
  · have h := wall_y hW hx e
    exact ⟨_, _, h.1, hL.wall hx e, h.2⟩
  · exact ⟨_, S, hW, hL, fun M hC => ⟨M, wall_n3 hC hW hx e, hC⟩⟩
theorem slide_ex (hW : WI S) (hL : LW S) {c b : Int} (c1 : -1000 < c) (c2 : c < 1000) (b1 : -1000 < b) (b2 : b < 1000) : ∃ v S', WI S' ∧ LW S' ∧ Dt S (F_L_trySlide (iI c) (iI b)) v S' := by
  rcases tS_3 (n := xn S) (w := xw S) (L := xL S) (G := xG S) (P := xP S) (c := c) (b := b) with e | e | e | e
  · obtain ⟨e1, e2, e3⟩ := tS_0 e
    obtain ⟨i, rfl⟩ : ∃ i : Nat, c = i := ⟨c.toNat, by omega⟩
    rw [Int.toNat_natCast] at e3
    by_cases e4 : xk S < 60
    · obtain ⟨q, q1, q2, q3, q4⟩ := slide_y hW.pk (show i < xn S by omega) e2.1 e2.2.1 e3
      have h := sl_y hW (show i < xn S by omega) e2.1 e2.2.1 e2.2.2 e3 e4 q1
      exact ⟨_, _, h.1, hL.slide, h.2⟩
    · exact ⟨_, S, hW, hL, fun M hC => ⟨M, slide_full hC hW (by omega) (by omega) (by omega) (by omega) e e4, hC⟩⟩
  · exact ⟨_, S, hW, hL, fun M hC => ⟨M, slide_no hC hW (by omega) (by omega) (by omega) (by omega) e (by omega), hC⟩⟩
  · exact ⟨_, S, hW, hL, fun M hC => ⟨M, slide_no hC hW (by omega) (by omega) (by omega) (by omega) e (by omega), hC⟩⟩
  · exact ⟨_, S, hW, hL, fun M hC => ⟨M, slide_no hC hW (by omega) (by omega) (by omega) (by omega) e (by omega), hC⟩⟩
theorem take_ex (hW : WI S) (hL : LW S) : ∃ v S', WI S' ∧ LW S' ∧ Dt S F_L_tryTake v S' := by
  by_cases e : xk S = 0
  · exact ⟨_, S, hW, hL, fun M hC => ⟨M, take_no hC e, hC⟩⟩
  · obtain ⟨q, -, -, h1, h2⟩ := take_y hW (show 0 < xk S by omega)
    exact ⟨_, _, h1, hL.take, h2⟩
theorem undo_ex (hW : WI S) (hL : LW S) : ∃ v S', WI S' ∧ LW S' ∧ Dt S F_L_tryUndo v S' := by
  by_cases e : sC S = 0
  · exact ⟨_, S, hW, hL, fun M hC => ⟨M, undo_no hC e, hC⟩⟩
  · exact ⟨_, _, undo_WI hW (by omega), hL.undo (by omega), undo_y hW (by omega)⟩
theorem back_ex (hW : WI S) (hL : LW S) : ∃ v S', WI S' ∧ LW S' ∧ Dt S F_L_tryBack v S' := by
  by_cases e : sF S = true
  · have h := back_y hW e
    exact ⟨_, _, h.1, hL.back e, h.2⟩
  · exact ⟨_, S, hW, hL, fun M hC => ⟨M, back_no hC e, hC⟩⟩
theorem Dt.cg {α : Type} {S S' : Wst} {F F' : Wd → Option (α × Wd)} {v : α} (h : Dt S F v S') (e : ∀ M, CI S M → F' M = F M) : Dt S F' v S' := fun M hC => by
  obtain ⟨M', m1, m2⟩ := h M hC
  exact ⟨M', (e M hC).trans m1, m2⟩
theorem act_ex (hW : WI S) (hL : LW S) {x : Nat} (hx : x < 2147483648) : ∃ v S', WI S' ∧ LW S' ∧ Dt S (F_L_act (iI (x : Int))) v S' := by
  have hn := hW.pk.n6
  obtain ⟨r, hr⟩ : ∃ r, x % 16 = r := ⟨_, rfl⟩
  have hr16 : r < 16 := by omega
  have hy : x / 16 < 2147483648 := by omega
  have hd : iI (x : Int) / (16 : Int32) = iI ((x / 16 : Nat) : Int) := div_16 hx
  have hm : iI (x : Int) - iI (x : Int) / (16 : Int32) * (16 : Int32) = iI ((r : Nat) : Int) := by rw [rem_16 hx, hr]
  obtain ⟨y, hye⟩ : ∃ y, x / 16 = y := ⟨_, rfl⟩
  rw [hye] at hy hd
  have hadd : ∃ v S', WI S' ∧ LW S' ∧ Dt S (F_L_tryAdd (iI ((if xn S = 0 then y % 5 else y % 10 : Nat) : Int)) (iI ((y / 20 % 4 : Nat) : Int)) (iI ((2 + y / 10 % 2 : Nat) : Int))) v S' := add_ex hW hL (by split <;> omega) (by omega) (by omega)
  match r, hr16, hm with
  | 0, _, hm =>
    obtain ⟨v, S', h1, h2, h3⟩ := hadd
    refine ⟨v, S', h1, h2, h3.cg fun M hC => ?_⟩
    unfold F_L_act
    rw [hm, hd, bnd_v, bnd_v]
    refine (if_pos rfl).trans ?_
    rw [lk_cars hC, bnd_v, rem_5 hy, rem_10 hy, div_20 hy, rem_4 (show y / 20 < 2147483648 by omega), div_10 hy, rem_2 (show y / 10 < 2147483648 by omega), show (2 : Int32) = iI ((2 : Nat) : Int) from rfl, iI_add, cn_0, ob2_id]
    by_cases e : xn S = 0
    · rw [e, if_pos (show iI ((0 : Nat) : Int) = 0 from rfl), if_pos rfl]; rfl
    · rw [if_neg (show ¬ iI (xn S : Int) = 0 by rw [iL_0, iI_eq (by omega) (by omega) (by omega) (by omega)]; omega), if_neg e]; rfl
  | 1, _, hm =>
    obtain ⟨v, S', h1, h2, h3⟩ := hadd
    refine ⟨v, S', h1, h2, h3.cg fun M hC => ?_⟩
    unfold F_L_act
    rw [hm, hd, bnd_v, bnd_v]
    refine (if_neg (by decide)).trans ?_
    refine (if_pos rfl).trans ?_
    rw [lk_cars hC, bnd_v, rem_5 hy, rem_10 hy, div_20 hy, rem_4 (show y / 20 < 2147483648 by omega), div_10 hy, rem_2 (show y / 10 < 2147483648 by omega), show (2 : Int32) = iI ((2 : Nat) : Int) from rfl, iI_add, cn_0, ob2_id]
    by_cases e : xn S = 0
    · rw [e, if_pos (show iI ((0 : Nat) : Int) = 0 from rfl), if_pos rfl]; rfl
    · rw [if_neg (show ¬ iI (xn S : Int) = 0 by rw [iL_0, iI_eq (by omega) (by omega) (by omega) (by omega)]; omega), if_neg e]; rfl
  | 2, _, hm =>
    obtain ⟨v, S', h1, h2, h3⟩ := hadd
    refine ⟨v, S', h1, h2, h3.cg fun M hC => ?_⟩
    unfold F_L_act
    rw [hm, hd, bnd_v, bnd_v]
    refine (if_neg (by decide)).trans ?_
    refine (if_neg (by decide)).trans ?_
    refine (if_pos rfl).trans ?_
    rw [lk_cars hC, bnd_v, rem_5 hy, rem_10 hy, div_20 hy, rem_4 (show y / 20 < 2147483648 by omega), div_10 hy, rem_2 (show y / 10 < 2147483648 by omega), show (2 : Int32) = iI ((2 : Nat) : Int) from rfl, iI_add, cn_0, ob2_id]
    by_cases e : xn S = 0
    · rw [e, if_pos (show iI ((0 : Nat) : Int) = 0 from rfl), if_pos rfl]; rfl
    · rw [if_neg (show ¬ iI (xn S : Int) = 0 by rw [iL_0, iI_eq (by omega) (by omega) (by omega) (by omega)]; omega), if_neg e]; rfl
  | 3, _, hm =>
    by_cases e3 : y % 3 = 0
    · obtain ⟨v, S', h1, h2, h3⟩ := drop_ex hW hL
      refine ⟨v, S', h1, h2, h3.cg fun M hC => ?_⟩
      unfold F_L_act
      rw [hm, hd, bnd_v, bnd_v]
      refine (if_neg (by decide)).trans ?_
      refine (if_neg (by decide)).trans ?_
      refine (if_neg (by decide)).trans ?_
      refine (if_pos rfl).trans ?_
      rw [rem_3 hy, e3, if_pos (show iI ((0 : Nat) : Int) = 0 from rfl), cn_1, ob2_id]
    · obtain ⟨v, S', h1, h2, h3⟩ := wall_ex hW hL (x := y % 25) (by omega)
      refine ⟨v, S', h1, h2, h3.cg fun M hC => ?_⟩
      unfold F_L_act
      rw [hm, hd, bnd_v, bnd_v]
      refine (if_neg (by decide)).trans ?_
      refine (if_neg (by decide)).trans ?_
      refine (if_neg (by decide)).trans ?_
      refine (if_pos rfl).trans ?_
      rw [rem_3 hy, if_neg (show ¬ iI ((y % 3 : Nat) : Int) = 0 by rw [iL_0, iI_eq (by omega) (by omega) (by omega) (by omega)]; omega), rem_25 hy, ob2_id]
  | 4, _, hm =>
    by_cases e3 : y % 2 = 0
    · obtain ⟨v, S', h1, h2, h3⟩ := take_ex hW hL
      refine ⟨v, S', h1, h2, h3.cg fun M hC => ?_⟩
      unfold F_L_act
      rw [hm, hd, bnd_v, bnd_v]
      refine (if_neg (by decide)).trans ?_
      refine (if_neg (by decide)).trans ?_
      refine (if_neg (by decide)).trans ?_
      refine (if_neg (by decide)).trans ?_
      refine (if_pos rfl).trans ?_
      rw [rem_2 hy, e3, if_pos (show iI ((0 : Nat) : Int) = 0 from rfl), cn_3, ob2_id]
    · have h3 := rew_y hW
      refine ⟨_, _, h3.1, hL.rew, h3.2.cg fun M hC => ?_⟩
      unfold F_L_act
      rw [hm, hd, bnd_v, bnd_v]
      refine (if_neg (by decide)).trans ?_
      refine (if_neg (by decide)).trans ?_
      refine (if_neg (by decide)).trans ?_
      refine (if_neg (by decide)).trans ?_
      refine (if_pos rfl).trans ?_
      rw [rem_2 hy, if_neg (show ¬ iI ((y % 2 : Nat) : Int) = 0 by rw [iL_0, iI_eq (by omega) (by omega) (by omega) (by omega)]; omega), ob2_id]
  | 5, _, hm =>
    obtain ⟨v, S', h1, h2, h3⟩ := undo_ex hW hL
    refine ⟨v, S', h1, h2, h3.cg fun M hC => ?_⟩
    unfold F_L_act
    rw [hm, hd, bnd_v, bnd_v]
    refine (if_neg (by decide)).trans ?_
    refine (if_neg (by decide)).trans ?_
    refine (if_neg (by decide)).trans ?_
    refine (if_neg (by decide)).trans ?_
    refine (if_neg (by decide)).trans ?_
    refine (if_pos rfl).trans ?_
    rw [cn_8, ob2_id]
  | 6, _, hm =>
    by_cases e3 : y % 2 = 0
    · have h3 := keep_y hW
      refine ⟨_, _, h3.1, hL.keep, h3.2.cg fun M hC => ?_⟩
      unfold F_L_act
      rw [hm, hd, bnd_v, bnd_v]
      refine (if_neg (by decide)).trans ?_
      refine (if_neg (by decide)).trans ?_
      refine (if_neg (by decide)).trans ?_
      refine (if_neg (by decide)).trans ?_
      refine (if_neg (by decide)).trans ?_
      refine (if_neg (by decide)).trans ?_
      refine (if_pos rfl).trans ?_
      rw [rem_2 hy, e3, if_pos (show iI ((0 : Nat) : Int) = 0 from rfl), ob2_id]
    · obtain ⟨v, S', h1, h2, h3⟩ := back_ex hW hL
      refine ⟨v, S', h1, h2, h3.cg fun M hC => ?_⟩
      unfold F_L_act
      rw [hm, hd, bnd_v, bnd_v]
      refine (if_neg (by decide)).trans ?_
      refine (if_neg (by decide)).trans ?_
      refine (if_neg (by decide)).trans ?_
      refine (if_neg (by decide)).trans ?_
      refine (if_neg (by decide)).trans ?_
      refine (if_neg (by decide)).trans ?_
      refine (if_pos rfl).trans ?_
      rw [rem_2 hy, if_neg (show ¬ iI ((y % 2 : Nat) : Int) = 0 by rw [iL_0, iI_eq (by omega) (by omega) (by omega) (by omega)]; omega), cn_9, ob2_id]
  | r + 7, hr16, hm =>
    have hq : ∀ j : Nat, j < 7 → ¬ iI ((r + 7 : Nat) : Int) = iI (j : Int) := fun j hj => by rw [iI_eq (by omega) (by omega) (by omega) (by omega)]; omega
    by_cases e : xn S = 0
    · refine ⟨(-1 : Int32), S, hW, hL, fun M hC => ⟨M, ?_, hC⟩⟩
      unfold F_L_act
      rw [hm, hd, bnd_v, bnd_v]
      refine (if_neg (hq 0 (by decide))).trans ?_
      refine (if_neg (hq 1 (by decide))).trans ?_
      refine (if_neg (hq 2 (by decide))).trans ?_
      refine (if_neg (hq 3 (by decide))).trans ?_
      refine (if_neg (hq 4 (by decide))).trans ?_
      refine (if_neg (hq 5 (by decide))).trans ?_
      refine (if_neg (hq 6 (by decide))).trans ?_
      rw [lk_cars hC, e]; rfl
    · obtain ⟨v, S', h1, h2, h3⟩ := slide_ex hW hL (c := ((y % xn S : Nat) : Int)) (b := if y / 8 % 2 = 0 then ((1 + y / 16 % 3 : Nat) : Int) else -1 - ((y / 16 % 3 : Nat) : Int)) (by omega) (by have := Nat.mod_lt y (show 0 < xn S by omega); omega) (by split <;> omega) (by split <;> omega)
      refine ⟨v, S', h1, h2, h3.cg fun M hC => ?_⟩
      unfold F_L_act
      rw [hm, hd, bnd_v, bnd_v]
      refine (if_neg (hq 0 (by decide))).trans ?_
      refine (if_neg (hq 1 (by decide))).trans ?_
      refine (if_neg (hq 2 (by decide))).trans ?_
      refine (if_neg (hq 3 (by decide))).trans ?_
      refine (if_neg (hq 4 (by decide))).trans ?_
      refine (if_neg (hq 5 (by decide))).trans ?_
      refine (if_neg (hq 6 (by decide))).trans ?_
      have hz : ¬ iI (xn S : Int) = 0 := by rw [iL_0, iI_eq (by omega) (by omega) (by omega) (by omega)]; omega
      rw [lk_cars hC, if_neg hz, grd_t hz, bnd_v, rem_I hy (by omega) (by omega), cn_2, ob2_id, div_8 hy, rem_2 (show y / 8 < 2147483648 by omega), div_16 hy, rem_3 (show y / 16 < 2147483648 by omega), show (-1 : Int32) = iI (-1) from rfl, iI_sub, show (1 : Int32) = iI ((1 : Nat) : Int) from rfl, iI_add]
      by_cases e8 : y / 8 % 2 = 0
      · rw [e8, if_pos (show iI ((0 : Nat) : Int) = 0 from rfl), if_pos rfl]; rfl
      · rw [if_neg (show ¬ iI ((y / 8 % 2 : Nat) : Int) = 0 by rw [iL_0, iI_eq (by omega) (by omega) (by omega) (by omega)]; omega), if_neg e8]
end AC
