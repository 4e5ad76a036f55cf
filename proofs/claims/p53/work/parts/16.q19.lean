/-! ===== looks at the park and the log ===== -/
theorem bitN (x i : Nat) : x / 2 ^ i % 2 = if x.testBit i = true then 1 else 0 := by
  rw [Nat.testBit_eq_decide_div_mod_eq]
  by_cases e : x / 2 ^ i % 2 = 1
  · rw [e]; rfl
  · rw [decide_eq_false e, if_neg (by decide)]; omega
theorem cbit_I {a x : Nat} {α : Type} {y z : α} (ha : a < 2147483648) (hx : x < 31) : (if (iI (a : Int) &&& ((1 : Int32) <<< (iI (x : Int) &&& 31))) = 0 then y else z) = if a.testBit x = true then z else y := by
  have h2 : a &&& 2 ^ x ≤ a := Nat.and_le_left
  rw [show (1 : Int32) = iI ((1 : Nat) : Int) from rfl, iI_shl _ _ (by omega), Nat.one_mul, iI_and, iL_0, if_eq (by omega) (by omega) (by omega) (by omega)]
  by_cases e : a.testBit x = true
  · rw [if_pos e, if_neg]
    intro q
    have := (fb_bit_nat a x).mp (by omega)
    rw [e] at this; cases this
  · rw [if_neg e, if_pos]
    have := (fb_bit_nat a x).mpr (Bool.eq_false_iff.mpr e)
    omega
theorem mbit_I {a x : Nat} (ha : a < 2147483648) (hx : x < 31) : (iI (a : Int) >>> (iI (x : Int) &&& 31)) &&& (1 : Int32) = if a.testBit x = true then iI 1 else iI 0 := by
  rw [iI_shr _ _ ha (by omega), show (1 : Int32) = iI ((1 : Nat) : Int) from rfl, iI_and, show a / 2 ^ x &&& 1 = a / 2 ^ x % 2 from Nat.and_two_pow_sub_one_eq_mod _ 1, bitN]
  by_cases e : a.testBit x = true
  · rw [if_pos e, if_pos e]; rfl
  · rw [if_neg e, if_neg e]; rfl
theorem i10_eq1 {c : Prop} [Decidable c] {α : Type} {x y : α} : (if (if c then iI 1 else iI 0) = 1 then x else y) = if c then x else y := by
  by_cases h : c
  · rw [if_pos h, if_pos h, if_pos (show iI 1 = (1 : Int32) from rfl)]
  · rw [if_neg h, if_neg h, if_neg (by decide)]
/-- the first car on a cell -/
def fcar (L P G : Nat → Nat) (x : Nat) : Nat → Nat → Int
  | 0, _ => -1
  | r + 1, i => if (cm (L i) (P i) (G i)).testBit x = true then (i : Int) else fcar L P G x r (i + 1)
theorem fcar_rng {L P G : Nat → Nat} {x : Nat} : ∀ r i, fcar L P G x r i = -1 ∧ (∀ j, i ≤ j → j < i + r → (cm (L j) (P j) (G j)).testBit x = false) ∨ ((i : Int) ≤ fcar L P G x r i ∧ fcar L P G x r i < (i : Int) + r ∧ (cm (L (fcar L P G x r i).toNat) (P (fcar L P G x r i).toNat) (G (fcar L P G x r i).toNat)).testBit x = true)
  | 0, i => Or.inl ⟨rfl, fun j h1 h2 => by omega⟩
  | r + 1, i => by
    unfold fcar
    by_cases e : (cm (L i) (P i) (G i)).testBit x = true
    · rw [if_pos e]
      exact Or.inr ⟨by omega, by omega, by rw [Int.toNat_natCast]; exact e⟩
    · rw [if_neg e]
      rcases fcar_rng (L := L) (P := P) (G := G) (x := x) r (i + 1) with ⟨h1, h2⟩ | ⟨h1, h2, h3⟩
      · left
        refine ⟨h1, fun j j1 j2 => ?_⟩
        by_cases ej : j = i
        · rw [ej]; exact Bool.eq_false_iff.mpr e
        · exact h2 j (by omega) (by omega)
      · right
        exact ⟨by omega, by omega, h3⟩
section LK
variable {n w k : Nat} {z : Int} {L P G lc : Nat → Nat} {lb : Nat → Int} {M : Wd}
theorem carAt_loop (h : PkC 1 n w k z L P G lc lb M) (hW : PkW n w k z L P G lc lb) {x : Nat} (hx : x < 25) {ρ : Type} {K1 : Int32 → Option ρ} {K2 : Option ρ} : ∀ (r q i : Nat), i + r = n →
    F_X1_carAt_L2 (iI (x : Int)) M K1 K2 (q + 1 + r) (iI (i : Int)) = if fcar L P G x r i = -1 then K2 else K1 (iI (fcar L P G x r i))
  | 0, q, i, hr => by
    have hn := hW.n6
    show (if (M.1 1 5) ≤ iI (i : Int) then K2 else _) = if (-1 : Int) = -1 then K2 else _
    rw [h.vn, if_le (by omega) (by omega) (by omega) (by omega), if_pos (by omega), if_pos rfl]
  | r + 1, q, i, hr => by
    have hn := hW.n6
    have hi : i < n := by omega
    have hg := hW.2.2.1 i hi
    have hcm := cm_lt hW.2.2.1 hi (hW.in5 hi)
    show (if (M.1 1 5) ≤ iI (i : Int) then K2 else if (6 : Int32) ≤ iI (i : Int) then K2 else ldi (M.1 2) 6 (iI (i : Int)) fun v3 => ldi (M.1 3) 6 (iI (i : Int)) fun v6 => ldi (M.1 4) 6 (iI (i : Int)) fun v9 => if ((F_X3_cellsOf v3 v6 v9) &&& ((1 : Int32) <<< (iI (x : Int) &&& 31))) = 0 then bnd (iI (i : Int) + (1 : Int32)) fun v14 => F_X1_carAt_L2 (iI (x : Int)) M K1 K2 (q + 1 + r) v14 else K1 (iI (i : Int))) = _
    rw [h.vn, if_le (by omega) (by omega) (by omega) (by omega), if_neg (by omega), show (6 : Int32) = iI 6 from rfl, if_le (by omega) (by omega) (by omega) (by omega), if_neg (by omega), ldi_N (by omega) (by omega), ldi_N (by omega) (by omega), ldi_N (by omega) (by omega), h.vL hi, h.vP hi, h.vG hi, cellsOf_I hg.1 hg.2.1 hg.2.2 (hW.in5 hi), cbit_I (by omega) (by omega), s1_I, bnd_v, carAt_loop h hW hx r q (i + 1) (by omega)]
    show _ = if (if (cm (L i) (P i) (G i)).testBit x = true then (i : Int) else fcar L P G x r (i + 1)) = -1 then K2 else K1 (iI (if (cm (L i) (P i) (G i)).testBit x = true then (i : Int) else fcar L P G x r (i + 1)))
    by_cases e : (cm (L i) (P i) (G i)).testBit x = true
    · rw [if_pos e, if_pos e, if_neg (by omega)]
    · rw [if_neg e, if_neg e]
theorem carAt_I (h : PkC 1 n w k z L P G lc lb M) (hW : PkW n w k z L P G lc lb) {x : Nat} (hx : x < 25) : F_X1_carAt (iI (x : Int)) M = some (iI (fcar L P G x n 0)) := by
  unfold F_X1_carAt
  obtain ⟨p, hp⟩ := fuelS n (by have := hW.n6; omega)
  rw [hp]
  refine Eq.trans (carAt_loop h hW hx n p 0 (by omega)) ?_
  by_cases e : fcar L P G x n 0 = -1
  · rw [if_pos e, e]; rfl
  · rw [if_neg e]
theorem wallAt_I (h : M.1 1 6 = iI (w : Int)) (hw : w < 2147483648) {x : Nat} (hx : x < 25) : F_X1_hasWallAt (iI (x : Int)) M = if w.testBit x = true then iI 1 else iI 0 := by
  unfold F_X1_hasWallAt
  rw [h, cbit_I (by omega) (by omega)]
  rfl
theorem isCell_I {c : Int} (c1 : -2147483648 ≤ c) (c2 : c < 2147483648) : F_X3_isCell (iI c) = if 0 ≤ c ∧ c < 25 then iI 1 else iI 0 := by
  unfold F_X3_isCell
  rw [iL_0, iL_1, show (25 : Int32) = iI 25 from rfl, if_lt (by omega) (by omega) (by omega) (by omega), if_le (by omega) (by omega) (by omega) (by omega)]
  by_cases e : 0 ≤ c ∧ c < 25
  · rw [if_neg (by omega), if_neg (by omega), if_pos e]
  · rw [if_neg e]
    by_cases e1 : c < 0
    · rw [if_pos e1]
    · rw [if_neg e1, if_pos (by omega)]
/-- whether the red car is out now -/
def isR (n : Nat) (P G : Nat → Nat) : Bool := decide (0 < n) && decide (P 0 + G 0 = 5)
theorem redOut_I (h : PkC 1 n w k z L P G lc lb M) (hW : PkW n w k z L P G lc lb) : F_X1_isRedOut M = if isR n P G = true then iI 1 else iI 0 := by
  have hn := hW.n6
  unfold F_X1_isRedOut isR
  rw [h.vn, iL_0, if_le (by omega) (by omega) (by omega) (by omega)]
  by_cases e : 0 < n
  · have := hW.in5 e
    rw [if_neg (by omega), h.vP e, h.vG e, iI_add, show (5 : Int32) = iI 5 from rfl, if_eq (by omega) (by omega) (by omega) (by omega), decide_eq_true e, Bool.true_and]
    by_cases e2 : P 0 + G 0 = 5
    · rw [if_pos (by omega), decide_eq_true e2, if_pos rfl]; rfl
    · rw [if_neg (by omega), decide_eq_false e2, if_neg (by decide)]
  · rw [if_pos (by omega), decide_eq_false e, Bool.false_and, if_neg (by decide)]
/-- all rooms -/
def allR (w : Nat) (L G P : Nat → Nat) (n i : Nat) : Nat := fb_sm (fun c => rmm w L G P n c true + rmm w L G P n c false) i
theorem allR_le {i : Nat} : allR w L G P n i ≤ i * 6 := fb_sm_bound fun c _ => by
  have h1 := rmm_le (w := w) (n := n) (L := L) (P := P) (G := G) (c := c) (f := true)
  have h2 := rmm_le (w := w) (n := n) (L := L) (P := P) (G := G) (c := c) (f := false)
  omega
theorem poss_loop (h : PkC 1 n w k z L P G lc lb M) (hW : PkW n w k z L P G lc lb) {ρ : Type} {K : Int32 → Option ρ} : ∀ (r q i : Nat), i + r = n →
    F_X3_possibleSlides_L4 M K (q + 1 + r) (iI (allR w L G P n i : Nat)) (iI (i : Int)) = K (iI (allR w L G P n n : Nat))
  | 0, q, i, hr => by
    have hn := hW.n6
    show (if (M.1 1 5) ≤ iI (i : Int) then K _ else _) = _
    rw [h.vn, if_le (by omega) (by omega) (by omega) (by omega), if_pos (by omega), show i = n by omega]
  | r + 1, q, i, hr => by
    have hn := hW.n6
    have hi : i < n := by omega
    show (if (M.1 1 5) ≤ iI (i : Int) then K _ else obind (F_X1_roomOf (iI (i : Int)) (iI (sgn true)) M) fun v2 => obind (F_X1_roomOf (iI (i : Int)) (iI (sgn false)) M) fun v5 => bnd (iI (allR w L G P n i : Nat) + (v2 + v5)) fun v8 => bnd (iI (i : Int) + (1 : Int32)) fun v10 => F_X3_possibleSlides_L4 M K (q + 1 + r) v8 v10) = _
    rw [h.vn, if_le (by omega) (by omega) (by omega) (by omega), if_neg (by omega), roomOf_I h hW hi, ob_s, roomOf_I h hW hi, ob_s, s1_I, bnd_v, bnd_v, iI_add, iI_add]
    exact poss_loop h hW r q (i + 1) (by omega)
theorem poss_I (h : PkC 1 n w k z L P G lc lb M) (hW : PkW n w k z L P G lc lb) : F_X3_possibleSlides M = some (iI (allR w L G P n n : Nat)) := by
  unfold F_X3_possibleSlides
  obtain ⟨p, hp⟩ := fuelS n (by have := hW.n6; omega)
  rw [hp]
  exact poss_loop h hW (K := fun v => some v) n p 0 (by omega)
/-! the log -/
theorem gdl_at : ∀ (k : Nat) (P : Nat → Nat), gdl w L G n lc lb k P → ∀ j, j < k → lc j < n ∧ -3 ≤ lb j ∧ lb j ≤ 3
  | 0, _, _, j, hj => by omega
  | k + 1, P, h, j, hj => by
    by_cases e : j = k
    · rw [e]; exact ⟨h.1, h.2.1, h.2.2.1⟩
    · exact gdl_at k _ h.2.2.2.2.2 j (by omega)
theorem PkW.lg (hW : PkW n w k z L P G lc lb) {j : Nat} (hj : j < k) : lc j < n ∧ -3 ≤ lb j ∧ lb j ≤ 3 := gdl_at k P hW.2.2.2.2.2.2 j hj
theorem PkW.k60 (hW : PkW n w k z L P G lc lb) : k ≤ 60 := hW.2.2.2.2.1
def stp1 (lc : Nat → Nat) (lb : Nat → Int) (c j : Nat) : Nat := if lc j = c then (lb j).natAbs else 0
def stps (lc : Nat → Nat) (lb : Nat → Int) (k c : Nat) : Nat := fb_sm (stp1 lc lb c) k
theorem stps_le (hW : PkW n w k z L P G lc lb) {c i : Nat} (hi : i ≤ k) : stps lc lb i c ≤ i * 3 := fb_sm_bound fun j hj => by
  have := hW.lg (show j < k by omega)
  unfold stp1
  split <;> omega
theorem abs_I {b : Int} (h1 : -3 ≤ b) (h2 : b ≤ 3) : F_abs (iI b) = iI ((b.natAbs : Nat) : Int) := by
  rw [F_abs_I (by omega) (by omega)]
  congr 1
  by_cases e : 0 ≤ b
  · rw [if_pos e]; omega
  · rw [if_neg e]; omega
theorem steps_loop (h : PkC 1 n w k z L P G lc lb M) (hW : PkW n w k z L P G lc lb) {c : Nat} (hc : c < 100) {ρ : Type} {K : Int32 → Option ρ} : ∀ (r q i : Nat), i + r = k →
    F_X1_loggedSteps_L4 (iI (c : Int)) M K (q + 1 + r) (iI (stps lc lb i c : Nat)) (iI (i : Int)) = K (iI (stps lc lb k c : Nat))
  | 0, q, i, hr => by
    have hk := hW.k60
    show (if (M.1 1 7) ≤ iI (i : Int) then K _ else _) = _
    rw [h.vk, if_le (by omega) (by omega) (by omega) (by omega), if_pos (by omega), show i = k by omega]
  | r + 1, q, i, hr => by
    have hk := hW.k60
    have hn := hW.n6
    have hi : i < k := by omega
    have hg := hW.lg hi
    show (if (M.1 1 7) ≤ iI (i : Int) then K _ else if (60 : Int32) ≤ iI (i : Int) then K _ else ldi (M.1 5) 60 (iI (i : Int)) fun v3 => obind (if v3 = iI (c : Int) then ldi (M.1 6) 60 (iI (i : Int)) fun v8 => bnd (iI (stps lc lb i c : Nat) + (F_abs v8)) fun v11 => some v11 else some (iI (stps lc lb i c : Nat))) fun v6 => bnd (iI (i : Int) + (1 : Int32)) fun v14 => F_X1_loggedSteps_L4 (iI (c : Int)) M K (q + 1 + r) v6 v14) = _
    have key : (if iI (lc i : Int) = iI (c : Int) then ldi (M.1 6) 60 (iI (i : Int)) fun v8 => bnd (iI (stps lc lb i c : Nat) + (F_abs v8)) fun v11 => some v11 else some (iI (stps lc lb i c : Nat))) = some (iI (stps lc lb (i + 1) c : Nat)) := by
      rw [if_eq (by omega) (by omega) (by omega) (by omega), ldi_N (by omega) (by omega), h.vlb hi, bnd_v, abs_I hg.2.1 hg.2.2, iI_add]
      show _ = some (iI ((stps lc lb i c + stp1 lc lb c i : Nat) : Int))
      unfold stp1
      by_cases e : lc i = c
      · rw [if_pos (by omega), if_pos e]; rfl
      · rw [if_neg (by omega), if_neg e, Nat.add_zero]
    rw [h.vk, if_le (by omega) (by omega) (by omega) (by omega), if_neg (by omega), show (60 : Int32) = iI 60 from rfl, if_le (by omega) (by omega) (by omega) (by omega), if_neg (by omega), ldi_N (by omega) (by omega), h.vlc hi, key, ob_s, s1_I, bnd_v]
    exact steps_loop h hW hc r q (i + 1) (by omega)
theorem steps_I (h : PkC 1 n w k z L P G lc lb M) (hW : PkW n w k z L P G lc lb) {c : Nat} (hc : c < 100) : F_X1_loggedSteps (iI (c : Int)) M = some (iI (stps lc lb k c : Nat)) := by
  unfold F_X1_loggedSteps
  obtain ⟨p, hp⟩ := fuelS k (by have := hW.k60; omega)
  rw [hp]
  exact steps_loop h hW hc (K := fun v => some v) k p 0 (by omega)
/-- the fuel: by slides, by cars -/
def fuS (G lc : Nat → Nat) (lb : Nat → Int) (i : Nat) : Nat := fb_sm (fun j => (lb j).natAbs * G (lc j)) i
def fuC (G lc : Nat → Nat) (lb : Nat → Int) (k i : Nat) : Nat := fb_sm (fun c => stps lc lb k c * G c) i
theorem fb_sm_mul (a : Nat) (f : Nat → Nat) : ∀ n, fb_sm (fun j => f j * a) n = fb_sm f n * a
  | 0 => (Nat.zero_mul a).symm
  | n + 1 => by rw [fb_sm_succ, fb_sm_succ, fb_sm_mul a f n, Nat.add_mul]
theorem fu_one {c : Nat} {G : Nat → Nat} {l : Nat} (b : Nat) : ∀ n, fb_sm (fun c => (if l = c then b else 0) * G c) n = if l < n then b * G l else 0
  | 0 => by rw [if_neg (by omega)]; rfl
  | n + 1 => by
    rw [fb_sm_succ, fu_one (c := c) b n]
    by_cases e : l = n
    · subst e
      rw [if_neg (by omega), if_pos rfl, if_pos (by omega), Nat.zero_add]
    · rw [if_neg e, Nat.zero_mul, Nat.add_zero]
      by_cases e2 : l < n
      · rw [if_pos e2, if_pos (by omega)]
      · rw [if_neg e2, if_neg (by omega)]
theorem fu_same {N : Nat} : ∀ {k : Nat}, (∀ j, j < k → lc j < N) → fuC G lc lb k N = fuS G lc lb k
  | 0, _ => by
    show fb_sm (fun c => 0 * G c) N = 0
    rw [fb_sm_cong (g := fun _ => 0) (fun c _ => Nat.zero_mul _), fb_sm_const, Nat.mul_zero]
  | k + 1, h => by
    have ih := fu_same (N := N) (k := k) (fun j hj => h j (by omega))
    have e : fuC G lc lb (k + 1) N = fuC G lc lb k N + fb_sm (fun c => (if lc k = c then (lb k).natAbs else 0) * G c) N := by
      unfold fuC
      rw [← fb_sm_add]
      refine fb_sm_cong fun c _ => ?_
      show (stps lc lb k c + stp1 lc lb c k) * G c = _
      rw [Nat.add_mul]; rfl
    rw [e, ih, fu_one (c := 0), if_pos (h k (by omega))]
    rfl
theorem fuel_loop (h : PkC 1 n w k z L P G lc lb M) (hW : PkW n w k z L P G lc lb) {ρ : Type} {K : Int32 → Option ρ} : ∀ (r q i : Nat), i + r = k →
    F_X1_fuelSlideBySlide_L4 M K (q + 1 + r) (iI (fuS G lc lb i : Nat)) (iI (i : Int)) = K (iI (fuS G lc lb k : Nat))
  | 0, q, i, hr => by
    have hk := hW.k60
    show (if (M.1 1 7) ≤ iI (i : Int) then K _ else _) = _
    rw [h.vk, if_le (by omega) (by omega) (by omega) (by omega), if_pos (by omega), show i = k by omega]
  | r + 1, q, i, hr => by
    have hk := hW.k60
    have hn := hW.n6
    have hi : i < k := by omega
    have hg := hW.lg hi
    show (if (M.1 1 7) ≤ iI (i : Int) then K _ else if (60 : Int32) ≤ iI (i : Int) then K _ else ldi (M.1 5) 60 (iI (i : Int)) fun v3 => obind (if (F_X1_hasCar v3 M) = 0 then some (0 : Int32) else ldi (M.1 6) 60 (iI (i : Int)) fun v9 => ldi (M.1 4) 6 v3 fun v12 => some ((F_abs v9) * v12)) fun v7 => bnd (iI (fuS G lc lb i : Nat) + v7) fun v16 => bnd (iI (i : Int) + (1 : Int32)) fun v18 => F_X1_fuelSlideBySlide_L4 M K (q + 1 + r) v16 v18) = _
    rw [h.vk, if_le (by omega) (by omega) (by omega) (by omega), if_neg (by omega), show (60 : Int32) = iI 60 from rfl, if_le (by omega) (by omega) (by omega) (by omega), if_neg (by omega), ldi_N (a := M.1 5) (by omega) (by omega), h.vlc hi, hasCar_I h hW (by omega) (by omega), i10_eq0, if_pos (by omega), ldi_N (a := M.1 6) (by omega) (by omega), h.vlb hi, ldi_N (a := M.1 4) (by omega) (by omega), h.vG hg.1, abs_I hg.2.1 hg.2.2, ob_s, iI_mul, s1_I, bnd_v, bnd_v, iI_add]
    exact fuel_loop h hW r q (i + 1) (by omega)
theorem fuel_I (h : PkC 1 n w k z L P G lc lb M) (hW : PkW n w k z L P G lc lb) : F_X1_fuelSlideBySlide M = some (iI (fuS G lc lb k : Nat)) := by
  unfold F_X1_fuelSlideBySlide
  obtain ⟨p, hp⟩ := fuelS k (by have := hW.k60; omega)
  rw [hp]
  exact fuel_loop h hW (K := fun v => some v) k p 0 (by omega)
theorem fuelC_loop (h : PkC 1 n w k z L P G lc lb M) (hW : PkW n w k z L P G lc lb) {ρ : Type} {K : Int32 → Option ρ} : ∀ (r q i : Nat), i + r = n →
    F_X1_fuelCarByCar_L4 M K (q + 1 + r) (iI (fuC G lc lb k i : Nat)) (iI (i : Int)) = K (iI (fuC G lc lb k n : Nat))
  | 0, q, i, hr => by
    have hn := hW.n6
    show (if (M.1 1 5) ≤ iI (i : Int) then K _ else _) = _
    rw [h.vn, if_le (by omega) (by omega) (by omega) (by omega), if_pos (by omega), show i = n by omega]
  | r + 1, q, i, hr => by
    have hn := hW.n6
    have hi : i < n := by omega
    show (if (M.1 1 5) ≤ iI (i : Int) then K _ else if (6 : Int32) ≤ iI (i : Int) then K _ else obind (F_X1_loggedSteps (iI (i : Int)) M) fun v3 => ldi (M.1 4) 6 (iI (i : Int)) fun v6 => bnd (iI (fuC G lc lb k i : Nat) + (v3 * v6)) fun v9 => bnd (iI (i : Int) + (1 : Int32)) fun v11 => F_X1_fuelCarByCar_L4 M K (q + 1 + r) v9 v11) = _
    rw [h.vn, if_le (by omega) (by omega) (by omega) (by omega), if_neg (by omega), show (6 : Int32) = iI 6 from rfl, if_le (by omega) (by omega) (by omega) (by omega), if_neg (by omega), steps_I h hW (by omega), ob_s, ldi_N (by omega) (by omega), h.vG hi, iI_mul, s1_I, bnd_v, bnd_v, iI_add]
    exact fuelC_loop h hW r q (i + 1) (by omega)
theorem fuelC_I (h : PkC 1 n w k z L P G lc lb M) (hW : PkW n w k z L P G lc lb) : F_X1_fuelCarByCar M = some (iI (fuS G lc lb k : Nat)) := by
  unfold F_X1_fuelCarByCar
  obtain ⟨p, hp⟩ := fuelS n (by have := hW.n6; omega)
  rw [hp, ← fu_same (G := G) (lc := lc) (lb := lb) (N := n) (k := k) (fun j hj => (hW.lg hj).1)]
  exact fuelC_loop h hW (K := fun v => some v) n p 0 (by omega)
end LK
