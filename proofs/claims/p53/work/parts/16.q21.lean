/-! ===== edits of a park ===== -/
theorem upI_at {M : Wd} {c k j : Nat} {v : Int32} : (upI M c k v).1 c j = if j = k then v else M.1 c j := by rw [upI_row]; rfl
theorem upI_of {M : Wd} {c c' k j : Nat} {v : Int32} (h : c' ≠ c) : (upI M c k v).1 c' j = M.1 c' j := by rw [upI_row_ne h]
def frC1 (M M' : Wd) : Prop := (∀ c, c = 0 ∨ 6 < c → M'.1 c = M.1 c) ∧ M'.2 = M.2
def frM1 (M M' : Wd) : Prop := (∀ c, c ≠ 55 → M'.1 c = M.1 c) ∧ M'.2 = M.2
theorem frC1.rf (M : Wd) : frC1 M M := ⟨fun _ _ => rfl, rfl⟩
theorem frM1.rf (M : Wd) : frM1 M M := ⟨fun _ _ => rfl, rfl⟩
theorem frC1.tr {M N O : Wd} (h : frC1 M N) (h2 : frC1 N O) : frC1 M O := ⟨fun c a => by rw [h2.1 c a, h.1 c a], by rw [h2.2, h.2]⟩
theorem frM1.tr {M N O : Wd} (h : frM1 M N) (h2 : frM1 N O) : frM1 M O := ⟨fun c a => by rw [h2.1 c a, h.1 c a], by rw [h2.2, h.2]⟩
theorem setd_Z {a c q : Nat} (hq : q < 4) : (setd a c q : Int) = (a : Int) + ((q : Int) - (dg a c : Int)) * ((4 ^ c : Nat) : Int) := by
  have hd := dg_lt a c
  by_cases e : dg a c ≤ q
  · have h := setd_add c a (q - dg a c)
    rw [show dg a c + (q - dg a c) = q by omega] at h
    rw [h, Int.natCast_add, Int.natCast_mul, show ((q - dg a c : Nat) : Int) = (q : Int) - (dg a c : Int) by omega]
  · have h := setd_sub c a (dg a c - q) (by omega)
    rw [show dg a c - (dg a c - q) = q by omega] at h
    have h2 : ((setd a c q + (dg a c - q) * 4 ^ c : Nat) : Int) = (a : Int) := by rw [h]
    rw [Int.natCast_add, Int.natCast_mul, show ((dg a c - q : Nat) : Int) = (dg a c : Int) - (q : Int) by omega] at h2
    rw [← h2, ← Int.neg_sub (dg a c : Int) (q : Int), Int.neg_mul]
    omega
theorem shlZ_f : ∀ c, c < 6 → ∀ j, j < 7 → iI ((j : Nat) - 3 : Int) <<< (((2 : Int32) * iI (c : Nat)) &&& 31) = iI (((j : Nat) - 3 : Int) * ((4 ^ c : Nat) : Int)) := by decide +kernel
theorem enc_move {n c q : Nat} {P : Nat → Nat} {b : Int} (hc : c < n) (hn : n ≤ 6) (h4 : ∀ i, i < n → P i < 4) (hq : q < 4) (e : (q : Int) = (P c : Int) + b) (b1 : -3 ≤ b) (b2 : b ≤ 3) : iI ((enc P n : Nat) : Int) + (iI b <<< (((2 : Int32) * iI (c : Int)) &&& 31)) = iI ((enc (updN P c q) n : Nat) : Int) := by
  have h1 := shlZ_f c (by omega) (b + 3).toNat (by omega)
  rw [show (((b + 3).toNat : Nat) : Int) - 3 = b by omega] at h1
  rw [h1, iI_add, ← enc_set hc h4 hq, setd_Z hq, dg_enc h4 c hc, e]
  congr 2
  rw [show (P c : Int) + b - (P c : Int) = b by omega]
section ED
variable {n w k : Nat} {z : Int} {L P G lc : Nat → Nat} {lb : Nat → Int} {M : Wd}
/-! what the edits do, and that the park stays sound -/
theorem wf_enter (hW : PkW n w k z L P G lc lb) {l p g : Nat} (hn : n < 6) (hl : l < 10) (g1 : 2 ≤ g) (g2 : g < 4) (h5 : p + g ≤ 5) (h0 : ocm w L G P n &&& cm l p g = 0) : PkW (n + 1) w 0 z (updN L n l) (updN P n p) (updN G n g) lc lb := by
  have hcg : ∀ i, i < n → P i = updN P n p i ∧ L i = updN L n l i ∧ G i = updN G n g i := fun i hi => ⟨(updN_n (by omega)).symm, (updN_n (by omega)).symm, (updN_n (by omega)).symm⟩
  refine ⟨by omega, hW.2.1, fun i hi => ?_, ?_, by omega, hW.2.2.2.2.2.1, trivial⟩
  · by_cases e : i = n
    · subst e; rw [updN_s, updN_s]; exact ⟨hl, g1, g2⟩
    · rw [updN_n e, updN_n e]; exact hW.2.2.1 i (by omega)
  · rw [okb_s, ← okb_cong hcg, ← ocm_cong hcg, updN_s, updN_s, updN_s]
    exact ⟨hW.2.2.2.1, h5, h0⟩
theorem enter_I (h : PkC 1 n w k z L P G lc lb M) {l p g : Nat} (hn : n < 6) :
    ∃ M', F_X1_enter (iI (l : Int)) (iI (p : Int)) (iI (g : Int)) M = some (iI (n : Int), M') ∧ PkC 1 (n + 1) w 0 z (updN L n l) (updN P n p) (updN G n g) lc lb M' ∧ frC1 M M' := by
  unfold F_X1_enter
  rw [bnd_v, h.vn, iL_0, if_lt (by omega) (by omega) (by omega) (by omega), if_neg (by omega), show (6 : Int32) = iI 6 from rfl, if_le (by omega) (by omega) (by omega) (by omega), if_neg (by omega), inb_N (by omega) (by omega), inb_N (by omega) (by omega), inb_N (by omega) (by omega), iI_clN (by omega), ob_s, s1_I]
  obtain ⟨h1, h2, h3, h4, h5, h6, h7, h8, h9, h10⟩ := h
  refine ⟨_, rfl, ⟨?_, ?_, ?_, ?_, fun hz => ?_, fun i hi => ?_, fun i hi => ?_, fun i hi => ?_, fun i hi => by omega, fun i hi => by omega⟩, ⟨fun c hc => ?_, rfl⟩⟩
  · rw [upI_at, if_neg (by decide), upI_at, if_pos rfl]
  · rw [upI_at, if_neg (by decide), upI_at, if_neg (by decide), upI_of (by decide), upI_of (by decide), upI_of (by decide)]; exact h2
  · rw [upI_at, if_pos rfl]; rfl
  · rw [upI_at, if_neg (by decide), upI_at, if_neg (by decide), upI_of (by decide), upI_of (by decide), upI_of (by decide)]; exact h4
  · rw [upI_at, if_neg (by decide), upI_at, if_neg (by decide), upI_of (by decide), upI_of (by decide), upI_of (by decide)]; exact h5 hz
  · show (upI _ 1 7 _).1 2 i = _
    rw [upI_of (by decide), upI_of (by decide), upI_of (by decide), upI_of (by decide), upI_at]
    by_cases e : i = n
    · rw [if_pos e, e, updN_s]
    · rw [if_neg e, updN_n e]; exact h6 i (by omega)
  · show (upI _ 1 7 _).1 3 i = _
    rw [upI_of (by decide), upI_of (by decide), upI_of (by decide), upI_at, upI_of (by decide)]
    by_cases e : i = n
    · rw [if_pos e, e, updN_s]
    · rw [if_neg e, updN_n e]; exact h7 i (by omega)
  · show (upI _ 1 7 _).1 4 i = _
    rw [upI_of (by decide), upI_of (by decide), upI_at, upI_of (by decide), upI_of (by decide)]
    by_cases e : i = n
    · rw [if_pos e, e, updN_s]
    · rw [if_neg e, updN_n e]; exact h8 i (by omega)
  · rw [upI_row_ne (by omega), upI_row_ne (by omega), upI_row_ne (by omega), upI_row_ne (by omega), upI_row_ne (by omega)]
theorem wf_leave (hW : PkW n w k z L P G lc lb) : PkW (n - 1) w 0 z L P G lc lb :=
  ⟨by have := hW.n6; omega, hW.2.1, fun i hi => hW.2.2.1 i (by omega), okb_le hW.2.2.2.1 (by omega), by omega, hW.2.2.2.2.2.1, trivial⟩
theorem leave_I (h : PkC 1 n w k z L P G lc lb M) (hn : 0 < n) :
    ∃ M', F_X1_leave M = some (iI ((n - 1 : Nat) : Int), M') ∧ PkC 1 (n - 1) w 0 z L P G lc lb M' ∧ frC1 M M' := by
  unfold F_X1_leave
  rw [h.vn, iL_1, iI_sub, show (n : Int) - 1 = ((n - 1 : Nat) : Int) by omega]
  obtain ⟨h1, h2, h3, h4, h5, h6, h7, h8, h9, h10⟩ := h
  refine ⟨_, rfl, ⟨?_, ?_, ?_, ?_, fun hz => ?_, fun i hi => ?_, fun i hi => ?_, fun i hi => ?_, fun i hi => by omega, fun i hi => by omega⟩, ⟨fun c hc => ?_, rfl⟩⟩
  · rw [upI_at, if_neg (by decide), upI_at, if_pos rfl]
  · rw [upI_at, if_neg (by decide), upI_at, if_neg (by decide)]; exact h2
  · rw [upI_at, if_pos rfl]; rfl
  · rw [upI_at, if_neg (by decide), upI_at, if_neg (by decide)]; exact h4
  · rw [upI_at, if_neg (by decide), upI_at, if_neg (by decide)]; exact h5 hz
  · rw [upI_of (by decide), upI_of (by decide)]; exact h6 i (by omega)
  · rw [upI_of (by decide), upI_of (by decide)]; exact h7 i (by omega)
  · rw [upI_of (by decide), upI_of (by decide)]; exact h8 i (by omega)
  · rw [upI_row_ne (by omega), upI_row_ne (by omega)]
theorem wf_wall (hW : PkW n w k z L P G lc lb) {x : Nat} (hx : x < 25) (h : w.testBit x = true ∨ ∀ i, i < n → ¬ (cm (L i) (P i) (G i)).testBit x = true) : PkW n (w ^^^ 2 ^ x) 0 z L P G lc lb := by
  have hok := okb_iff.mp hW.2.2.2.1
  refine ⟨hW.n6, ?_, hW.2.2.1, ?_, by omega, hW.2.2.2.2.2.1, trivial⟩
  · have : 2 ^ x < 2 ^ 25 := Nat.pow_lt_pow_right (by decide) hx
    exact Nat.xor_lt_two_pow (n := 25) hW.2.1 this
  · refine okb_iff.mpr ⟨hok.1, fun i hi y hy => ?_, hok.2.2⟩
    obtain ⟨y1, y2⟩ := hy
    rw [fb_bit_flip] at y1
    by_cases e : y = x
    · subst e
      rcases h with h | h
      · rw [h, decide_eq_true rfl] at y1; cases y1
      · exact h i hi y2
    · rw [decide_eq_false e, Bool.xor_false] at y1
      exact hok.2.1 i hi y ⟨y1, y2⟩
theorem turn_I (h : PkC 1 n w k z L P G lc lb M) (hw : w < 33554432) {x : Nat} (hx : x < 25) :
    ∃ M', F_X1_turnWall (iI (x : Int)) M = some (if (w ^^^ 2 ^ x).testBit x = true then iI 1 else iI 0, M') ∧ PkC 1 n (w ^^^ 2 ^ x) 0 z L P G lc lb M' ∧ frC1 M M' := by
  unfold F_X1_turnWall
  have e : (M.1 1 6) ^^^ ((1 : Int32) <<< (iI (x : Int) &&& 31)) = iI ((w ^^^ 2 ^ x : Nat) : Int) := by
    rw [h.vw, show (1 : Int32) = iI ((1 : Nat) : Int) from rfl, iI_shl _ _ (by omega), Nat.one_mul, iI_xor]
  have hlt : w ^^^ 2 ^ x < 2 ^ 25 := Nat.xor_lt_two_pow (n := 25) hw (Nat.pow_lt_pow_right (by decide) hx)
  rw [e, wallAt_I (by rw [upI_at, if_neg (by decide), upI_at, if_pos rfl]) (Nat.lt_trans hlt (by decide)) hx]
  obtain ⟨h1, h2, h3, h4, h5, h6, h7, h8, h9, h10⟩ := h
  refine ⟨_, rfl, ⟨?_, ?_, ?_, ?_, fun hz => ?_, fun i hi => ?_, fun i hi => ?_, fun i hi => ?_, fun i hi => by omega, fun i hi => by omega⟩, ⟨fun c hc => ?_, rfl⟩⟩
  · rw [upI_at, if_neg (by decide), upI_at, if_neg (by decide)]; exact h1
  · rw [upI_at, if_neg (by decide), upI_at, if_pos rfl]
  · rw [upI_at, if_pos rfl]; rfl
  · rw [upI_at, if_neg (by decide), upI_at, if_neg (by decide)]; exact h4
  · rw [upI_at, if_neg (by decide), upI_at, if_neg (by decide)]; exact h5 hz
  · rw [upI_of (by decide), upI_of (by decide)]; exact h6 i (by omega)
  · rw [upI_of (by decide), upI_of (by decide)]; exact h7 i (by omega)
  · rw [upI_of (by decide), upI_of (by decide)]; exact h8 i (by omega)
  · rw [upI_row_ne (by omega), upI_row_ne (by omega)]
/-! slides -/
def updZ (f : Nat → Int) (i : Nat) (v : Int) : Nat → Int := fun j => if j = i then v else f j
theorem updZ_s {f : Nat → Int} {i : Nat} {v : Int} : updZ f i v i = v := if_pos rfl
theorem updZ_n {f : Nat → Int} {i j : Nat} {v : Int} (h : j ≠ i) : updZ f i v j = f j := if_neg h
theorem gdl_cong {lc' : Nat → Nat} {lb' : Nat → Int} : ∀ (k : Nat) (P : Nat → Nat), (∀ j, j < k → lc j = lc' j ∧ lb j = lb' j) → gdl w L G n lc lb k P → gdl w L G n lc' lb' k P
  | 0, _, _, _ => trivial
  | k + 1, P, h, hg => by
    obtain ⟨e1, e2⟩ := h k (by omega)
    have := hg
    unfold gdl at this ⊢
    rw [← e1, ← e2]
    exact ⟨this.1, this.2.1, this.2.2.1, this.2.2.2.1, this.2.2.2.2.1, gdl_cong k _ (fun j hj => h j (by omega)) this.2.2.2.2.2⟩
theorem updN_updN {f : Nat → Nat} {c q r : Nat} : updN (updN f c q) c r = updN f c r := by
  funext i
  by_cases e : i = c
  · subst e; rw [updN_s, updN_s]
  · rw [updN_n e, updN_n e, updN_n e]
theorem wf_slide (hW : PkW n w k z L P G lc lb) {c q : Nat} {b : Int} (hc : c < n) (b1 : -3 ≤ b) (b2 : b ≤ 3) (hk : k < 60) (hq : (q : Int) = (P c : Int) + b) (hok : okb w L G (updN P c q) n = true) : PkW n w (k + 1) z L (updN P c q) G (updN lc k c) (updZ lb k b) := by
  refine ⟨hW.n6, hW.2.1, hW.2.2.1, hok, by omega, hW.2.2.2.2.2.1, ?_⟩
  unfold gdl
  rw [updN_s, updZ_s, updN_s, show ((q : Int) - b).toNat = P c by omega, updN_updN, updN_self]
  exact ⟨hc, b1, b2, by omega, hW.2.2.2.1, gdl_cong k P (fun j hj => ⟨(updN_n (by omega)).symm, (updZ_n (by omega)).symm⟩) hW.2.2.2.2.2.2⟩
theorem make_I (h : PkC 1 n w k z L P G lc lb M) (hW : PkW n w k z L P G lc lb) {c q : Nat} {b : Int} (hc : c < n) (hk : k < 60) (hq : (q : Int) = (P c : Int) + b) :
    ∃ M', F_X1_makeSlide (iI (c : Int)) (iI b) M = some (iI (q : Int), M') ∧ PkC 1 n w (k + 1) z L (updN P c q) G (updN lc k c) (updZ lb k b) M' ∧ frC1 M M' := by
  have hn := hW.n6
  unfold F_X1_makeSlide
  rw [hasCar_I h hW (by omega) (by omega), i10_eq0, if_pos (by omega), h.vk, iL_0, if_lt (by omega) (by omega) (by omega) (by omega), if_neg (by omega), show (60 : Int32) = iI 60 from rfl, if_lt (by omega) (by omega) (by omega) (by omega), if_pos (by omega), ldi_N (a := M.1 3) (by omega) (by omega), h.vP hc, inb_N (by omega) (by omega), inb_N (by omega) (by omega), inb_N (by omega) (by omega), iI_clN (by omega), iI_clN (by omega), iI_add, ← hq, ldi_N (by omega) (by omega), upI_at, if_pos rfl, s1_I]
  obtain ⟨h1, h2, h3, h4, h5, h6, h7, h8, h9, h10⟩ := h
  refine ⟨_, rfl, ⟨?_, ?_, ?_, ?_, fun hz => ?_, fun i hi => ?_, fun i hi => ?_, fun i hi => ?_, fun i hi => ?_, fun i hi => ?_⟩, ⟨fun c hc => ?_, rfl⟩⟩
  · rw [upI_at, if_neg (by decide), upI_of (by decide), upI_of (by decide), upI_of (by decide)]; exact h1
  · rw [upI_at, if_neg (by decide), upI_of (by decide), upI_of (by decide), upI_of (by decide)]; exact h2
  · rw [upI_at, if_pos rfl]
  · rw [upI_at, if_neg (by decide), upI_of (by decide), upI_of (by decide), upI_of (by decide)]; exact h4
  · rw [upI_at, if_neg (by decide), upI_of (by decide), upI_of (by decide), upI_of (by decide)]; exact h5 hz
  · rw [upI_of (by decide), upI_of (by decide), upI_of (by decide), upI_of (by decide)]; exact h6 i hi
  · show (upI _ 1 7 _).1 3 i = _
    rw [upI_of (by decide), upI_of (by decide), upI_of (by decide), upI_at]
    by_cases e : i = c
    · rw [if_pos e, e, updN_s]
    · rw [if_neg e, updN_n e]; exact h7 i hi
  · rw [upI_of (by decide), upI_of (by decide), upI_of (by decide), upI_of (by decide)]; exact h8 i hi
  · show (upI _ 1 7 _).1 5 i = _
    rw [upI_of (by decide), upI_of (by decide), upI_at]
    by_cases e : i = k
    · rw [if_pos e, e, updN_s]
    · rw [if_neg e, updN_n e, upI_of (by decide)]; exact h9 i (by omega)
  · show (upI _ 1 7 _).1 6 i = _
    rw [upI_of (by decide), upI_at]
    by_cases e : i = k
    · rw [if_pos e, e, updZ_s]
    · rw [if_neg e, updZ_n e, upI_of (by decide), upI_of (by decide)]; exact h10 i (by omega)
  · rw [upI_row_ne (by omega), upI_row_ne (by omega), upI_row_ne (by omega), upI_row_ne (by omega)]
theorem wf_back (hW : PkW n w (k + 1) z L P G lc lb) : ∃ q : Nat, (q : Int) = (P (lc k) : Int) - lb k ∧ PkW n w k z L (updN P (lc k) q) G lc lb ∧ lc k < n := by
  obtain ⟨g1, g2, g3, g4, g5, g6⟩ := hW.2.2.2.2.2.2
  exact ⟨((P (lc k) : Int) - lb k).toNat, by omega, ⟨hW.n6, hW.2.1, hW.2.2.1, g5, by have := hW.k60; omega, hW.2.2.2.2.2.1, g6⟩, g1⟩
theorem unmake_I (h : PkC 1 n w (k + 1) z L P G lc lb M) (hW : PkW n w (k + 1) z L P G lc lb) {q : Nat} (hq : (q : Int) = (P (lc k) : Int) - lb k) (hc : lc k < n) :
    ∃ M', F_X1_unmakeSlide M = some (iI (lc k : Int), M') ∧ PkC 1 n w k z L (updN P (lc k) q) G lc lb M' ∧ frC1 M M' := by
  have hn := hW.n6
  have hk := hW.k60
  have ek : (M.1 1 7) - (1 : Int32) = iI (k : Int) := by rw [h.vk, iL_1, iI_sub, show ((k + 1 : Nat) : Int) - 1 = (k : Int) by omega]
  have hs : F_X1_hasSlide (iI (k : Int)) M = iI 1 := by
    unfold F_X1_hasSlide
    rw [h.vk, iL_0, if_lt (by omega) (by omega) (by omega) (by omega), if_neg (by omega), if_le (by omega) (by omega) (by omega) (by omega), if_neg (by omega), show (60 : Int32) = iI 60 from rfl, if_le (by omega) (by omega) (by omega) (by omega), if_neg (by omega)]
    rfl
  have hcar : F_X1_hasCar (iI (lc k : Int)) (upI M 1 7 (iI (k : Int))) = iI 1 := by
    unfold F_X1_hasCar
    rw [upI_at, if_neg (show ¬ 5 = 7 by decide), h.vn, iL_0, if_lt (by omega) (by omega) (by omega) (by omega), if_neg (by omega), if_le (by omega) (by omega) (by omega) (by omega), if_neg (by omega), show (6 : Int32) = iI 6 from rfl, if_le (by omega) (by omega) (by omega) (by omega), if_neg (by omega)]
    rfl
  unfold F_X1_unmakeSlide
  rw [ek, hs, if_neg (by decide), ldi_N (by omega) (by omega), h.vlc (show k < k + 1 by omega), hcar, if_neg (by decide), ldi_N (a := M.1 3) (by omega) (by omega), h.vP hc, ldi_N (a := M.1 6) (by omega) (by omega), h.vlb (show k < k + 1 by omega), inb_N (by omega) (by omega), iI_clN (by omega), iI_sub, ← hq, ob_s]
  obtain ⟨h1, h2, h3, h4, h5, h6, h7, h8, h9, h10⟩ := h
  refine ⟨_, rfl, ⟨?_, ?_, ?_, ?_, fun hz => ?_, fun i hi => ?_, fun i hi => ?_, fun i hi => ?_, fun i hi => ?_, fun i hi => ?_⟩, ⟨fun c hc => ?_, rfl⟩⟩
  · rw [upI_of (by decide), upI_at, if_neg (by decide)]; exact h1
  · rw [upI_of (by decide), upI_at, if_neg (by decide)]; exact h2
  · rw [upI_of (by decide), upI_at, if_pos rfl]
  · rw [upI_of (by decide), upI_at, if_neg (by decide)]; exact h4
  · rw [upI_of (by decide), upI_at, if_neg (by decide)]; exact h5 hz
  · rw [upI_of (by decide), upI_of (by decide)]; exact h6 i hi
  · show (upI _ 3 _ _).1 3 i = _
    rw [upI_at]
    by_cases e : i = lc k
    · rw [if_pos e, e, updN_s]
    · rw [if_neg e, upI_of (by decide), updN_n e]; exact h7 i hi
  · rw [upI_of (by decide), upI_of (by decide)]; exact h8 i hi
  · rw [upI_of (by decide), upI_of (by decide)]; exact h9 i (by omega)
  · rw [upI_of (by decide), upI_of (by decide)]; exact h10 i (by omega)
  · rw [upI_row_ne (by omega), upI_row_ne (by omega)]
end ED
