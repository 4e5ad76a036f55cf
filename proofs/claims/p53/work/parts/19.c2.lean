/-! ===== calls that are refused leave no trace ===== -/
def OK (S : Wst) (r : Option (Int32 × Wd)) : Prop := ∃ M', r = some ((1 : Int32), M') ∧ CI S M'
section OKS
variable {S : Wst}
theorem ok_1 {M : Wd} (h : CI S M) : OK S (some ((1 : Int32), M)) := ⟨M, rfl, h⟩
theorem ok_b {α : Type} {F : Option (α × Wd)} {v : α} {M1 : Wd} {g : α → Wd → Option (Int32 × Wd)} (h : F = some (v, M1)) (k : OK S (g v M1)) : OK S (obind2 F g) := by rw [h]; exact k
theorem ok_d {α : Type} {F : Wd → Option (α × Wd)} {S1 S' : Wst} {v : α} {M : Wd} {g : α → Wd → Option (Int32 × Wd)} (h : Dt S1 F v S') (hC : CI S1 M) (k : ∀ M', CI S' M' → OK S (g v M')) : OK S (obind2 (F M) g) := by
  obtain ⟨M', m1, m2⟩ := h M hC
  exact ok_b m1 (k M' m2)
theorem ok_o {X : Option (Int32 × Wd)} {S1 : Wst} {g : Int32 → Wd → Option (Int32 × Wd)} (h : OK S1 X) (k : ∀ M', CI S1 M' → OK S (g 1 M')) : OK S (obind2 X g) := by
  obtain ⟨M', m1, m2⟩ := h
  exact ok_b m1 (k M' m2)
theorem ok_p {c : Prop} [Decidable c] {A B : Option (Int32 × Wd)} (h : c) (k : OK S A) : OK S (if c then A else B) := by rw [if_pos h]; exact k
theorem ok_n {c : Prop} [Decidable c] {A B : Option (Int32 × Wd)} (h : ¬ c) (k : OK S B) : OK S (if c then A else B) := by rw [if_neg h]; exact k
theorem ok_c {c : Prop} [Decidable c] {A B : Option (Int32 × Wd)} (h1 : c → OK S A) (h2 : ¬ c → OK S B) : OK S (if c then A else B) := by
  by_cases h : c
  · exact ok_p h (h1 h)
  · exact ok_n h (h2 h)
theorem ok_j {K : Wd → Option (Int32 × Wd)} {g : (Wd → Option (Int32 × Wd)) → Option (Int32 × Wd)} (P : (Wd → Option (Int32 × Wd)) → Prop) (hK : P K) (h : ∀ K', P K' → OK S (g K')) : OK S (bnd K g) := h K hK
theorem ok_v {α : Type} {a : α} {g : α → Option (Int32 × Wd)} (k : OK S (g a)) : OK S (bnd a g) := k
theorem ok_g {c : Prop} [Decidable c] {A : Option (Int32 × Wd)} (h : c) (k : OK S A) : OK S (grd c A) := by rw [grd_t h]; exact k
theorem nz {a : Int} (a1 : -2147483648 ≤ a) (a2 : a < 2147483648) (h : a ≠ 0) : ¬ iI a = (0 : Int32) := by
  rw [iL_0, iI_eq a1 a2 (by omega) (by omega)]; exact h
/-- no next slide -/
theorem no_next (hW : WI S) (h : xn S = 0 ∨ isR (xn S) (xP S) (xG S) = true) : Dt S F_L_tryNext (iI (xr 3)) S ∧ Dt S F_L_tryChange (iI (xr 3)) S := by
  have hw := hW.pk
  obtain ⟨S0, hS0⟩ := SrE_ex hw.n6 hw.2.1 hw.2.2.1 hw.vv
  refine next_no hW hS0 ?_
  have h1 := Aend_eq (s := xs0 S) hS0
  have h2 := A_end hw.n6 hw.2.1 hw.2.2.1 hw.vv
  have h3 := (A_cnt hw.n6 hw.2.1 hw.2.2.1 hw.vv).2.2.2.2.2.2.1
  rcases h with h | h
  · intro z
    have h4 : isE (xG S) (xn S) (xs0 S) = false := by unfold isE; rw [h]; rfl
    obtain ⟨y, hy⟩ : ∃ y, S0.1 (xs0 S) = y := ⟨_, rfl⟩
    have h5 : S0.1 (xs0 S) = -1 := BF.none hS0 (fun a ha => by
      have := ha.2.1
      unfold isE at this
      rw [h] at this
      cases this) (xs0 S)
    rw [h5] at z
    exact absurd z (by decide)
  · rw [isR_isE hw] at h
    have e : S0.1 (xs0 S) = 0 := h1.symm.trans (h2.symm.trans (h3.mpr h))
    rw [e]
    decide
theorem tE_1 {n w : Nat} {L G P : Nat → Nat} {l p g : Int} (h : ¬ (0 ≤ l ∧ l < 10)) : tE n w L G P l p g = 1 := by unfold tE; rw [if_pos h]
theorem tE_2 {n w : Nat} {L G P : Nat → Nat} {l p g : Int} (h : 0 ≤ l ∧ l < 10) (h2 : ¬ (2 ≤ g ∧ g ≤ 3 ∧ 0 ≤ p ∧ p ≤ 5 - g)) : tE n w L G P l p g = 2 := by unfold tE; rw [if_neg (fun z => z h), if_pos h2]
theorem tE_3' {n w : Nat} {L G P : Nat → Nat} {l p g : Int} (h : 0 ≤ l ∧ l < 10) (h2 : 2 ≤ g ∧ g ≤ 3 ∧ 0 ≤ p ∧ p ≤ 5 - g) (h3 : n = 6 ∨ ocm w L G P n &&& cm l.toNat p.toNat g.toNat ≠ 0 ∨ (n = 0 ∧ 5 ≤ l)) : tE n w L G P l p g = 3 := by unfold tE; rw [if_neg (fun z => z h), if_neg (fun z => z h2), if_pos h3]
theorem tS_1 {n w : Nat} {L G P : Nat → Nat} {c b : Int} (h : ¬ (0 ≤ c ∧ c < n)) : tS n w L G P c b = 1 := by unfold tS; rw [if_pos h]
theorem tS_2 {n w : Nat} {L G P : Nat → Nat} {c b : Int} (h : 0 ≤ c ∧ c < n) (h2 : ¬ (-3 ≤ b ∧ b ≤ 3 ∧ b ≠ 0)) : tS n w L G P c b = 2 := by unfold tS; rw [if_neg (fun z => z h), if_pos h2]
theorem tS_3' {n w : Nat} {L G P : Nat → Nat} {i : Nat} {b : Int} (h : i < n) (h2 : -3 ≤ b ∧ b ≤ 3 ∧ b ≠ 0) (h3 : ¬ canS w L G P n i b = true) : tS n w L G P (i : Int) b = 3 := by unfold tS; rw [if_neg (by omega), if_neg (fun z => z h2), Int.toNat_natCast, if_neg h3]
set_option maxHeartbeats 4000000 in
theorem refuses_ok (hW : WI S) (hL : LW S) {x : Nat} (hx : x < 2147483648) {M : Wd} (hC : CI S M) : OK S (F_L_refuses (iI (x : Int)) M) := by
  have hw := hW.pk
  have hn := hw.n6
  have hk := hw.k60
  have hz : xz S = -1 := hL.1.2.2
  have hp4 : pc 25 (xw S) ≤ 4 := hL.1.1
  obtain ⟨z1, e1, a1, b1, c1⟩ : ∃ z : Int, (if iI ((x % 2 : Nat) : Int) = 0 then (-1 : Int32) - iI ((x % 99 : Nat) : Int) else F_X3_cars M + iI ((x % 9 : Nat) : Int)) = iI z ∧ -1000 < z ∧ z < 1000 ∧ ¬ (0 ≤ z ∧ z < (xn S : Int)) := by
    by_cases e : x % 2 = 0
    · exact ⟨-1 - ((x % 99 : Nat) : Int), by rw [e, if_pos (show iI ((0 : Nat) : Int) = 0 from rfl), show (-1 : Int32) = iI (-1) from rfl, iI_sub], by omega, by omega, by omega⟩
    · exact ⟨(xn S : Int) + ((x % 9 : Nat) : Int), by rw [if_neg (nz (by omega) (by omega) (by omega)), lk_cars hC, iI_add], by omega, by omega, by omega⟩
  obtain ⟨z5, e5, a5, b5, c5⟩ : ∃ z : Int, (if iI ((x % 2 : Nat) : Int) = 0 then (-1 : Int32) - iI ((x % 99 : Nat) : Int) else (25 : Int32) + iI ((x % 99 : Nat) : Int)) = iI z ∧ -1000 < z ∧ z < 1000 ∧ ¬ (0 ≤ z ∧ z < 25) := by
    by_cases e : x % 2 = 0
    · exact ⟨-1 - ((x % 99 : Nat) : Int), by rw [e, if_pos (show iI ((0 : Nat) : Int) = 0 from rfl), show (-1 : Int32) = iI (-1) from rfl, iI_sub], by omega, by omega, by omega⟩
    · exact ⟨25 + ((x % 99 : Nat) : Int), by rw [if_neg (nz (by omega) (by omega) (by omega)), show (25 : Int32) = iI 25 from rfl, iI_add], by omega, by omega, by omega⟩
  obtain ⟨z10, e10, a10, b10, c10⟩ : ∃ z : Int, (if iI ((x % 2 : Nat) : Int) = 0 then (-1 : Int32) - iI ((x % 9 : Nat) : Int) else (10 : Int32) + iI ((x % 9 : Nat) : Int)) = iI z ∧ -1000 < z ∧ z < 1000 ∧ ¬ (0 ≤ z ∧ z < 10) := by
    by_cases e : x % 2 = 0
    · exact ⟨-1 - ((x % 9 : Nat) : Int), by rw [e, if_pos (show iI ((0 : Nat) : Int) = 0 from rfl), show (-1 : Int32) = iI (-1) from rfl, iI_sub], by omega, by omega, by omega⟩
    · exact ⟨10 + ((x % 9 : Nat) : Int), by rw [if_neg (nz (by omega) (by omega) (by omega)), show (10 : Int32) = iI 10 from rfl, iI_add], by omega, by omega, by omega⟩
  obtain ⟨z20, e20, a20⟩ : ∃ z : Int, (if iI ((x % 2 : Nat) : Int) = 0 then (1 : Int32) else (4 : Int32)) = iI z ∧ (z = 1 ∨ z = 4) := by
    by_cases e : x % 2 = 0
    · exact ⟨1, by rw [e, if_pos (show iI ((0 : Nat) : Int) = 0 from rfl)]; rfl, by omega⟩
    · exact ⟨4, by rw [if_neg (nz (by omega) (by omega) (by omega))]; rfl, by omega⟩
  obtain ⟨z58, e58, a58⟩ : ∃ z : Int, (if iI ((x % 2 : Nat) : Int) = 0 then (32 : Int32) else (127 : Int32)) = iI z ∧ (z = 32 ∨ z = 127) := by
    by_cases e : x % 2 = 0
    · exact ⟨32, by rw [e, if_pos (show iI ((0 : Nat) : Int) = 0 from rfl)]; rfl, by omega⟩
    · exact ⟨127, by rw [if_neg (nz (by omega) (by omega) (by omega))]; rfl, by omega⟩
  obtain ⟨z100, e100, a100, b100, c100⟩ : ∃ z : Int, (if iI ((x % 2 : Nat) : Int) = 0 then (-1 : Int32) else F_X3_logged M) = iI z ∧ -1000 < z ∧ z < 1000 ∧ ¬ (0 ≤ z ∧ z < (xk S : Int)) := by
    by_cases e : x % 2 = 0
    · exact ⟨-1, by rw [e, if_pos (show iI ((0 : Nat) : Int) = 0 from rfl)]; rfl, by omega, by omega, by omega⟩
    · exact ⟨(xk S : Int), by rw [if_neg (nz (by omega) (by omega) (by omega)), lk_logged hC], by omega, by omega, by omega⟩
  have eA : (-1 : Int32) - iI ((x % 9 : Nat) : Int) = iI (-1 - ((x % 9 : Nat) : Int)) := by rw [show (-1 : Int32) = iI (-1) from rfl, iI_sub]
  have eB : (3 : Int32) + iI ((x % 9 : Nat) : Int) = iI (3 + ((x % 9 : Nat) : Int)) := by rw [show (3 : Int32) = iI 3 from rfl, iI_add]
  have eC : (4 : Int32) + iI ((x % 9 : Nat) : Int) = iI (4 + ((x % 9 : Nat) : Int)) := by rw [show (4 : Int32) = iI 4 from rfl, iI_add]
  have eD : (1 : Int32) + iI ((x % 3 : Nat) : Int) = iI (1 + ((x % 3 : Nat) : Int)) := by rw [show (1 : Int32) = iI 1 from rfl, iI_add]
  have eE : (5 : Int32) + iI ((x % 5 : Nat) : Int) = iI (5 + ((x % 5 : Nat) : Int)) := by rw [show (5 : Int32) = iI 5 from rfl, iI_add]
  unfold F_L_refuses
  rw [rem_2 hx, rem_99 hx, rem_9 hx, rem_10 hx, rem_25 hx, rem_5 hx, rem_3 hx, div_8 hx, e1, bnd_v, e5, bnd_v, bnd_v, e10, bnd_v, eA, eB, eC, eD, eE]
  refine ok_b (by rw [cn_0]; exact add_no hC hW (p := 9) (g := 9) (by omega) (by omega) (by omega) (by omega) (by omega) (by omega) (tE_1 c10) (by omega)) ?_
  refine ok_o (S1 := S) ?_ (fun M hC => ?_)
  · refine ok_p rfl ?_
    rw [e20, bnd_v]
    refine ok_b (by rw [cn_0]; exact add_no hC hW (l := ((x % 10 : Nat) : Int)) (p := 0) (g := z20) (by omega) (by omega) (by omega) (by omega) (by omega) (by omega) (tE_2 (by omega) (by omega)) (by omega)) ?_
    refine ok_p rfl ?_
    refine ok_b (by rw [cn_0]; exact add_no hC hW (l := ((x % 10 : Nat) : Int)) (g := 2) (by omega) (by omega) (by omega) (by omega) (by omega) (by omega) (tE_2 (by omega) (by omega)) (by omega)) ?_
    refine ok_p rfl ?_
    refine ok_b (by rw [cn_0]; exact add_no hC hW (l := ((x % 10 : Nat) : Int)) (g := 3) (by omega) (by omega) (by omega) (by omega) (by omega) (by omega) (tE_2 (by omega) (by omega)) (by omega)) ?_
    refine ok_p rfl ?_
    refine ok_b (wall_n1 (by omega) (by omega) c5) ?_
    refine ok_p rfl ?_
    refine ok_b (by rw [cn_2]; exact slide_no hC hW (b := 0) (by omega) (by omega) (by omega) (by omega) (tS_1 c1) (by omega)) ?_
    refine ok_p rfl ?_
    refine ok_b (by rw [cn_6]; exact work_no hC hW hL.2.2.2) ?_
    refine ok_p rfl ?_
    refine ok_b (by rw [cn_7]; exact stop_no hC hz) ?_
    refine ok_p rfl ?_
    rw [e58, bnd_v]
    refine ok_b (by rw [cn_5]; exact app_no a58) ?_
    refine ok_p rfl ?_
    refine ok_b (by rw [cn_10]; exact tl_n hC hW (by omega) (by omega) c1) ?_
    refine ok_p rfl ?_
    refine ok_b (by rw [cn_11]; exact tp_n hC hW (by omega) (by omega) c1) ?_
    refine ok_p rfl ?_
    refine ok_b (by rw [cn_12]; exact tg_n hC hW (by omega) (by omega) c1) ?_
    refine ok_p rfl ?_
    refine ok_b (by rw [cn_13]; exact to_n (by omega) (by omega) c5) ?_
    refine ok_p rfl ?_
    refine ok_b (iw_n (by omega) (by omega) c5) ?_
    refine ok_p rfl ?_
    refine ok_v ?_
    refine ok_b (rm_n hC hW (by omega) (by omega) c1) ?_
    refine ok_p rfl ?_
    rw [e100, bnd_v]
    refine ok_b (by rw [cn_14]; exact tc_n hC hW (by omega) (by omega) c100) ?_
    refine ok_p rfl ?_
    rw [lk_logged hC, iI_add]
    refine ok_b (by rw [cn_15]; exact tb_n hC hW (by omega) (by omega) (by omega)) ?_
    refine ok_p rfl ?_
    refine ok_b (by rw [cn_16]; exact ts_n hC hW (by omega) (by omega) c1) ?_
    refine ok_p rfl ?_
    refine ok_b (by rw [cn_19]; exact beh_no hC hW (b := 0) (by omega) (by omega) (by omega) (by omega) (tS_1 c1) (by omega)) ?_
    refine ok_p rfl ?_
    refine ok_b (by rw [cn_21]; exact ww_n1 (by omega) (by omega) c5) ?_
    refine ok_p rfl ?_
    exact ok_1 hC
  rw [bnd_v]
  have hc : x % 25 < 25 := by omega
  refine ok_b (by rw [cn_13]; exact to_y hC hW hc) ?_
  obtain ⟨f, hf, hf1, hf2⟩ : ∃ f : Int, fcar (xL S) (xP S) (xG S) (x % 25) (xn S) 0 = f ∧ -1 ≤ f ∧ f < 100 := by
    refine ⟨_, rfl, ?_, ?_⟩ <;> rcases fcar_rng (L := xL S) (P := xP S) (G := xG S) (x := x % 25) (xn S) 0 with ⟨h1, -⟩ | ⟨h1, h2, -⟩ <;> omega
  rw [hf]
  have hfe : (if iI f = (-1 : Int32) then (0 : Int32) else (1 : Int32)) = if f = -1 then iI 0 else iI 1 := by
    rw [show (-1 : Int32) = iI (-1) from rfl]
    by_cases e : f = -1
    · rw [if_pos (by rw [e]), if_pos e]; rfl
    · rw [if_neg (fun z => e ((iI_eq (by omega) (by omega) (by omega) (by omega)).mp z)), if_neg e]; rfl
  rw [hfe, bnd_v]
  have htk : f ≠ -1 → ¬ okT (xn S) (xw S) (xL S) (xP S) (xG S) (x % 25) = true ∧ (ocm (xw S) (xL S) (xG S) (xP S) (xn S)).testBit (x % 25) = true := fun e => by
    refine ⟨fun z => ?_, (occ_bit hw).mpr (Or.inr (by rw [hf]; exact e))⟩
    unfold okT at z
    rw [Bool.or_eq_true, Bool.and_eq_true, decide_eq_true_eq, hf] at z
    rcases z with z | z
    · exact e (hf ▸ fcar_wall hw z)
    · exact e z.1
  refine ok_o (S1 := S) ?_ (fun M hC => ?_)
  · refine ok_n (by decide) ?_
    refine ok_j (fun K => ∀ M, CI S M → OK S (K M)) (fun M hC => ?_) (fun K144 h144 => ?_)
    · refine ok_b (iw_y hC hW hc) ?_
      refine ok_j (fun K => ∀ M, CI S M → OK S (K M)) (fun M hC => ?_) (fun K150 h150 => ?_)
      · refine ok_j (fun K => ∀ M, CI S M → OK S (K M)) (fun M hC => ?_) (fun K153 h153 => ?_)
        · refine ok_j (fun K => ∀ M, CI S M → OK S (K M)) (fun M hC => ?_) (fun K156 h156 => ?_)
          · refine ok_j (fun K => ∀ M, CI S M → OK S (K M)) (fun M hC => ?_) (fun K159 h159 => ?_)
            · refine ok_j (fun K => ∀ M, CI S M → OK S (K M)) (fun M hC => ?_) (fun K162 h162 => ?_)
              · refine ok_j (fun K => (xn S = 0 ∨ isR (xn S) (xP S) (xG S) = true) → ∀ M, CI S M → OK S (K M)) (fun hnx M hC => ?_) (fun K165 h165 => ?_)
                · obtain ⟨n1, n2⟩ := no_next hW hnx
                  rw [cn_17]
                  refine ok_d n1 hC (fun M hC => ?_)
                  refine ok_p rfl ?_
                  rw [cn_18]
                  refine ok_d n2 hC (fun M hC => ?_)
                  refine ok_p rfl ?_
                  exact ok_1 hC
                · rw [lk_cars hC, lk_isOut hC hW, i10_eq0]
                  refine ok_c (fun e => h165 (Or.inl ?_) M hC) (fun _ => ok_c (fun e => h165 (Or.inr e) M hC) (fun _ => ok_1 hC))
                  rw [iL_0, iI_le (by omega) (by omega) (by omega) (by omega)] at e
                  omega
              · rw [lk_cars hC]
                refine ok_c (fun e => h162 M hC) (fun e => ?_)
                have e0 : xn S = 0 := by
                  rw [iL_0, iI_lt (by omega) (by omega) (by omega) (by omega)] at e; omega
                refine ok_b (by rw [cn_1]; exact drop_no hC e0) ?_
                refine ok_p rfl ?_
                rw [cn_4]
                refine ok_d (drive_no hW ?_) hC (fun M hC => ?_)
                · have h0 : Aend (xw S) (xL S) (xG S) (xn S) (xs0 S) = -1 := by
                    obtain ⟨S0, hS0⟩ := SrE_ex hn hw.2.1 hw.2.2.1 hw.vv
                    rw [Aend_eq hS0]
                    refine BF.none hS0 (fun a ha => ?_) (xs0 S)
                    have := ha.2.1
                    unfold isE at this
                    rw [e0] at this
                    cases this
                  unfold drv
                  rw [h0]
                  split <;> omega
                refine ok_p rfl ?_
                refine ok_b (by rw [cn_0]; exact add_no hC hW (p := 0) (g := 2) (by omega) (by omega) (by omega) (by omega) (by omega) (by omega) (tE_3' (by omega) (by omega) (Or.inr (Or.inr ⟨e0, by omega⟩))) (by omega)) ?_
                refine ok_p rfl ?_
                exact h162 M hC
            · rw [lk_cars hC]
              refine ok_c (fun e => h159 M hC) (fun e => ?_)
              rw [show (1 : Int32) = iI 1 from rfl, iI_lt (by omega) (by omega) (by omega) (by omega)] at e
              refine ok_b (by rw [cn_20]; exact wo_no hC hW (by omega)) ?_
              refine ok_p rfl ?_
              exact h159 M hC
          · rw [lk_logged hC]
            refine ok_c (fun e => h156 M hC) (fun e => ?_)
            rw [iL_0, iI_lt (by omega) (by omega) (by omega) (by omega)] at e
            refine ok_b (by rw [cn_3]; exact take_no hC (by omega)) ?_
            refine ok_p rfl ?_
            exact h156 M hC
        · rw [lk_walls hC hW]
          refine ok_c (fun e => h153 M hC) (fun e => ?_)
          rw [show (4 : Int32) = iI 4 from rfl, iI_lt (by omega) (by omega) (by omega) (by omega)] at e
          refine ok_c (fun e2 => ?_) (fun _ => h153 M hC)
          have e3 : f = -1 := by
            refine Classical.byContradiction fun q => ?_
            rw [if_neg q] at e2
            exact absurd e2 (by decide)
          refine ok_b (iw_y hC hW hc) ?_
          refine ok_c (fun e4 => h153 M hC) (fun e4 => ?_)
          have e5 : ¬ (xw S).testBit (x % 25) = true := fun q => by
            rw [if_pos q] at e4
            exact e4 rfl
          refine ok_b (wall_n3 hC hW hc (fun z => ?_)) ?_
          · unfold okT at z
            rw [Bool.or_eq_true, Bool.and_eq_true, decide_eq_true_eq, decide_eq_true_eq] at z
            rcases z with z | z
            · exact e5 z
            · omega
          refine ok_p rfl ?_
          exact h153 M hC
      · refine ok_c (fun e => h150 M hC) (fun e => ?_)
        have e5 : (xw S).testBit (x % 25) = true := Classical.byContradiction fun q => by
          rw [if_neg q] at e
          exact e rfl
        refine ok_b (by rw [cn_21]; exact ww_n3 hC hW hc ((occ_bit hw).mpr (Or.inl e5))) ?_
        refine ok_p rfl ?_
        exact h150 M hC
    · refine ok_c (fun e => h144 M hC) (fun e => ?_)
      have e3 : f ≠ -1 := fun q => by
        rw [if_pos q] at e
        exact e rfl
      refine ok_b (wall_n3 hC hW hc (htk e3).1) ?_
      refine ok_p rfl ?_
      refine ok_b (by rw [cn_21]; exact ww_n3 hC hW hc (htk e3).2) ?_
      refine ok_p rfl ?_
      exact h144 M hC
  refine ok_j (fun K => ∀ M, CI S M → OK S (K M)) (fun M hC => ok_p (Or.inr rfl) (ok_1 hC)) (fun K239 h239 => ?_)
  rw [lk_cars hC]
  refine ok_c (fun e => h239 M hC) (fun e => ?_)
  have n0 : 0 < xn S := Nat.pos_of_ne_zero fun q => e (by rw [q]; rfl)
  refine ok_n (by decide) ?_
  refine ok_g e ?_
  have hx8 : x / 8 < 2147483648 := by omega
  rw [rem_I hx8 n0 (by omega), bnd_v, bnd_v]
  obtain ⟨i, hi⟩ : ∃ i, x / 8 % xn S = i := ⟨_, rfl⟩
  have hin : i < xn S := by rw [← hi]; exact Nat.mod_lt _ n0
  rw [hi]
  have hg := hw.2.2.1 i hin
  have h5 := hw.in5 hin
  have hr1 := rmm_3 hw hin true
  have hr0 := rmm_3 hw hin false
  refine ok_b (by rw [cn_2]; exact slide_no hC hW (b := 0) (by omega) (by omega) (by omega) (by omega) (tS_2 (by omega) (by omega)) (by omega)) ?_
  refine ok_p rfl ?_
  refine ok_b (by rw [cn_2]; exact slide_no hC hW (by omega) (by omega) (by omega) (by omega) (tS_2 (by omega) (by omega)) (by omega)) ?_
  refine ok_p rfl ?_
  refine ok_b (by rw [cn_19, show (-4 : Int32) = iI (-4) from rfl]; exact beh_no hC hW (b := -4) (by omega) (by omega) (by omega) (by omega) (tS_2 (by omega) (by omega)) (by omega)) ?_
  refine ok_p rfl ?_
  refine ok_b (rm_y hC hW hin true) ?_
  refine ok_j (fun K => ∀ M, CI S M → OK S (K M)) (fun M hC => ?_) (fun K269 h269 => ?_)
  · refine ok_b (rm_y hC hW hin false) ?_
    refine ok_j (fun K => ∀ M, CI S M → OK S (K M)) (fun M hC => ?_) (fun K275 h275 => ?_)
    · refine ok_j (fun K => ∀ M, CI S M → OK S (K M)) (fun M hC => ?_) (fun K278 h278 => ?_)
      · refine ok_b (by rw [cn_10]; exact tl_y hC hW hin) ?_
        refine ok_b (by rw [cn_11]; exact tp_y hC hW hin) ?_
        have hoc : ocm (xw S) (xL S) (xG S) (xP S) (xn S) &&& cm ((xL S i : Int)).toNat ((xP S i : Int)).toNat (Int.toNat 2) ≠ 0 := fun q => by
          rw [Int.toNat_natCast, Int.toNat_natCast] at q
          exact and0_iff.mp q (cix (xL S i) (xP S i)) ⟨(ocm_bit (w := xw S) (L := xL S) (G := xG S) (p := xP S)).mpr (Or.inr ⟨i, hin, (cm_bit hg.1 hg.2.1 hg.2.2 h5 _).mpr ⟨xP S i, by omega, by omega, by omega, rfl⟩⟩), (cm_bit hg.1 (by decide) (by decide) (show xP S i + 2 ≤ 5 by omega) _).mpr ⟨xP S i, by omega, by omega, by omega, rfl⟩⟩
        refine ok_b (by rw [cn_0]; exact add_no hC hW (l := (xL S i : Int)) (p := (xP S i : Int)) (g := 2) (by omega) (by omega) (by omega) (by omega) (by omega) (by omega) (tE_3' (by omega) (by omega) (Or.inr (Or.inl hoc))) (by omega)) ?_
        refine ok_p rfl ?_
        exact ok_1 hC
      · rw [lk_cars hC]
        refine ok_c (fun e => h278 M hC) (fun e => ?_)
        rw [show (6 : Int32) = iI 6 from rfl, iI_lt (by omega) (by omega) (by omega) (by omega)] at e
        refine ok_b (by rw [cn_0]; exact add_no hC hW (l := ((x % 10 : Nat) : Int)) (p := 0) (g := 2) (by omega) (by omega) (by omega) (by omega) (by omega) (by omega) (tE_3' (by omega) (by omega) (Or.inl (by omega))) (by omega)) ?_
        refine ok_p rfl ?_
        exact h278 M hC
    · refine ok_c (fun e => h275 M hC) (fun e => ?_)
      rw [iI_le (by omega) (by omega) (by omega) (by omega)] at e
      rw [iI_neg]
      have hcs : ¬ canS (xw S) (xL S) (xG S) (xP S) (xn S) i (-(1 + ((x % 3 : Nat) : Int))) = true := fun q => by
        unfold canS at q
        have q' := of_decide_eq_true q
        rw [decide_eq_false (show ¬ 0 < -(1 + ((x % 3 : Nat) : Int)) by omega)] at q'
        omega
      refine ok_b (by rw [cn_2]; exact slide_no hC hW (by omega) (by omega) (by omega) (by omega) (tS_3' hin (by omega) hcs) (by omega)) ?_
      refine ok_p rfl ?_
      exact h275 M hC
  · refine ok_c (fun e => h269 M hC) (fun e => ?_)
    rw [iI_le (by omega) (by omega) (by omega) (by omega)] at e
    have hcs : ¬ canS (xw S) (xL S) (xG S) (xP S) (xn S) i (1 + ((x % 3 : Nat) : Int)) = true := fun q => by
      unfold canS at q
      have q' := of_decide_eq_true q
      rw [decide_eq_true (show 0 < 1 + ((x % 3 : Nat) : Int) by omega)] at q'
      omega
    refine ok_b (by rw [cn_2]; exact slide_no hC hW (by omega) (by omega) (by omega) (by omega) (tS_3' hin (by omega) hcs) (by omega)) ?_
    refine ok_p rfl ?_
    refine ok_b (by rw [cn_19]; exact beh_no hC hW (by omega) (by omega) (by omega) (by omega) (tS_3' hin (by omega) hcs) (by omega)) ?_
    refine ok_p rfl ?_
    exact h269 M hC
end OKS
