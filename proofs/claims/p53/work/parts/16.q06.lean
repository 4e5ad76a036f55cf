/-! ===== the class's explorer: whole searches by slides ===== -/
theorem frB.of {M M' : Wd} (h1 : ∀ c, c ≠ 47 → c ≠ 48 → c ≠ 44 → M'.1 c = M.1 c) (h2 : ∀ j, j ≠ 9 → M'.1 44 j = M.1 44 j) (h3 : M'.2 = M.2) : frB M M' := ⟨h1, h2, h3⟩
section XG
variable {w n : Nat} {L G : Nat → Nat}
def nbC (w : Nat) (L G : Nat → Nat) (n m a : Nat) : List Nat := nbF w L G n m a 0 n
theorem spread_loop {m : Nat} {Src : Nat → Prop} (hm : m < 1000) {ρ : Type} {K : Wd → Option ρ} : ∀ (r q i : Nat) (d : Int) (M : Wd) (S : SS), i + r = 4 ^ n → EL w n L G M → SE n M S → BI (VV w L G n) Src (nbC w L G n m) i d S → CB S → (i < S.2.length → d ≤ S.1 (S.2.getD i 0) + 1) →
    ∃ M' S', F_X0_spread_L2 (iI (m : Int)) K (q + 1 + r) (iI (i : Int)) M = K M' ∧ SE n M' S' ∧ CB S' ∧ BF (VV w L G n) Src (nbC w L G n m) S' ∧ frB M M'
  | 0, q, i, d, M, S, hr, h, hE, hI, hB, hd => by
    have hs := h.sz
    have hl := nd_le hI.1.1 (fun b hb => (hI.1.2.1 b hb).1.1)
    have h2 := hI.2.1
    refine ⟨M, S, ?_, hE, hB, ⟨d, ?_⟩, frB.rf M⟩
    · show (if (M.1 44 9) ≤ iI (i : Int) then K M else _) = K M
      rw [hE.2.2, if_le (by omega) (by omega) (by omega) (by omega), if_pos (by omega)]
    · rw [show S.2.length = i by omega]; exact hI
  | r + 1, q, i, d, M, S, hr, h, hE, hI, hB, hd => by
    have hs := h.sz
    have hl := nd_le hI.1.1 (fun b hb => (hI.1.2.1 b hb).1.1)
    have h2 := hI.2.1
    show ∃ M' S', (if (M.1 44 9) ≤ iI (i : Int) then K M else if (4096 : Int32) ≤ iI (i : Int) then K M else ldi (M.1 48) 4096 (iI (i : Int)) fun v3 => obind (F_X0_costOf v3 M) fun v6 => bnd (v6 + (1 : Int32)) fun v9 => F_X0_spread_L33 (iI (m : Int)) (iI (i : Int)) v9 (fun M24 => bnd (iI (i : Int) + (1 : Int32)) fun v25 => F_X0_spread_L2 (iI (m : Int)) K (q + 1 + r) v25 M24) fuelN (0 : Int32) M) = K M' ∧ _
    rw [hE.2.2, if_le (by omega) (by omega) (by omega) (by omega)]
    by_cases e : i < S.2.length
    · have hu := (hI.1.2.1 _ (getD_mem e)).1
      have hc0 := (hI.1.2.1 _ (getD_mem e)).2
      have hc1 := hB i e
      rw [if_neg (by omega), show (4096 : Int32) = iI 4096 from rfl, if_le (by omega) (by omega) (by omega) (by omega), if_neg (by omega), ldi_N (by omega) (by omega), hE.2.1 i e, costOf_I h hE.1 hu.1, ob_s, if_pos hu.2, bnd_v, iL_1, iI_add]
      obtain ⟨p, hp⟩ := fuelS n (by have := h.1.1; omega)
      rw [hp, iL_0, show iI 0 = iI ((0 : Nat) : Int) from rfl]
      obtain ⟨M1, f1, f2, f3⟩ := cars_I (L := L) (G := G) (w := w) (n := n) (m := m) (i := i) (d := S.1 (S.2.getD i 0) + 1) hm (by omega) (K := fun M24 => bnd (iI (i : Int) + iI 1) fun v25 => F_X0_spread_L2 (iI (m : Int)) K (q + 1 + r) v25 M24) n 0 p M S (by omega) h hE hI.1 hB (by omega) e
      rw [f1, bnd_v, iI_add]
      have hok : ∀ v ∈ nbC w L G n m (S.2.getD i 0), VV w L G n v := nbF_ok hu.1 (by omega)
      have hI2 := hI.next e (hd e) hok (l := nbC w L G n m (S.2.getD i 0)) (fun v => Iff.rfl)
      have hB2 := CBvisl (V := VV w L G n) (d := S.1 (S.2.getD i 0) + 1) (by omega) hB hI.1 (by omega) hok
      have hg := Gvisl (S.1 (S.2.getD i 0) + 1) (nbC w L G n m (S.2.getD i 0)) S
      obtain ⟨M2, S2, k1, k2, k3, k4, k5⟩ := spread_loop hm (K := K) r q (i + 1) _ M1 _ (by omega) (h.fr f3) f2 hI2 hB2 (fun hh => by
        have h9 := hI2.2.2.1 i (i + 1) (by omega) hh
        have h8 : (visl (S.1 (S.2.getD i 0) + 1) S (nbC w L G n m (S.2.getD i 0))).2.getD i 0 = S.2.getD i 0 := hg.2.2.2 i e
        rw [h8, hg.1 _ (by omega)] at h9
        exact Int.add_le_add_right h9 1)
      exact ⟨M2, S2, k1, k2, k3, k4, f3.tr k5⟩
    · rw [if_pos (by omega)]
      refine ⟨M, S, rfl, hE, hB, ⟨d, ?_⟩, frB.rf M⟩
      rw [show S.2.length = i by omega]; exact hI
/-- all costs forgotten -/
theorem forget_loop {ρ : Type} {K : Wd → Option ρ} : ∀ (r q i : Nat) (M : Wd), i + r = 4 ^ n → EL w n L G M → (∀ a, a < i → M.1 47 a = iI (-1)) →
    ∃ M', F_X0_forget_L2 K (q + 1 + r) (iI (i : Int)) M = K M' ∧ (∀ a, a < 4 ^ n → M'.1 47 a = iI (-1)) ∧ frB M M'
  | 0, q, i, M, hr, h, hF => by
    have hs := h.sz
    refine ⟨M, ?_, fun a ha => hF a (by omega), frB.rf M⟩
    show (if (M.1 44 7) ≤ iI (i : Int) then K M else _) = K M
    rw [h.2.2.1, if_le (by omega) (by omega) (by omega) (by omega), if_pos (by omega)]
  | r + 1, q, i, M, hr, h, hF => by
    have hs := h.sz
    show ∃ M', (if (M.1 44 7) ≤ iI (i : Int) then K M else if (4096 : Int32) ≤ iI (i : Int) then K M else inb 4096 (iI (i : Int)) <| bnd (iI (i : Int) + (1 : Int32)) fun v4 => F_X0_forget_L2 K (q + 1 + r) v4 (upI M 47 (iI (i : Int)).toNatClampNeg (-1 : Int32))) = K M' ∧ _
    rw [h.2.2.1, if_le (by omega) (by omega) (by omega) (by omega), if_neg (by omega), show (4096 : Int32) = iI 4096 from rfl, if_le (by omega) (by omega) (by omega) (by omega), if_neg (by omega), inb_N (by omega) (by omega), bnd_v, iI_clN (by omega), iL_m1, iL_1, iI_add]
    have hf : frB M (upI M 47 i (iI (-1))) := ⟨fun c h1 h2 h3 => upI_row_ne h1, fun j hj => by rw [upI_row_ne (by decide)], rfl⟩
    obtain ⟨M1, k1, k2, k3⟩ := forget_loop (K := K) r q (i + 1) (upI M 47 i (iI (-1))) (by omega) (h.fr hf) (fun a ha => by
      rw [upI_row]
      show upd (M.1 47) i (iI (-1)) a = _
      by_cases e : a = i
      · exact if_pos e
      · rw [← hF a (by omega)]; exact if_neg e)
    exact ⟨M1, k1, k2, hf.tr k3⟩
theorem forget_I {M : Wd} (h : EL w n L G M) : ∃ M', F_X0_forget M = some M' ∧ SE n M' (fun _ => -1, []) ∧ frB M M' := by
  have hs := h.sz
  unfold F_X0_forget
  obtain ⟨p, hp⟩ := fuelS (4 ^ n) (by omega)
  rw [hp, iL_0, show iI 0 = iI ((0 : Nat) : Int) from rfl]
  obtain ⟨M1, k1, k2, k3⟩ := forget_loop (K := fun M6 => some (upI M6 44 9 (iI ((0 : Nat) : Int)))) (4 ^ n) p 0 M (by omega) h (fun a ha => by omega)
  refine ⟨_, k1, ⟨fun a ha => ?_, fun j hj => (by cases hj), ?_⟩, k3.tr ⟨fun c h1 h2 h3 => upI_row_ne h3, fun j hj => ?_, rfl⟩⟩
  · rw [upI_row_ne (by decide)]; exact k2 a ha
  · rw [upI_row]; exact if_pos rfl
  · rw [upI_row]; exact if_neg hj
theorem spread_I {m : Nat} {Src : Nat → Prop} {M : Wd} {S : SS} {d : Int} (hm : m < 1000) (h : EL w n L G M) (hE : SE n M S) (hI : BI (VV w L G n) Src (nbC w L G n m) 0 d S) (hB : CB S) (hd : 0 < S.2.length → d ≤ S.1 (S.2.getD 0 0) + 1) :
    ∃ M' S', F_X0_spread (iI (m : Int)) M = some M' ∧ SE n M' S' ∧ CB S' ∧ BF (VV w L G n) Src (nbC w L G n m) S' ∧ frB M M' := by
  have hs := h.sz
  unfold F_X0_spread
  obtain ⟨p, hp⟩ := fuelS (4 ^ n) (by omega)
  rw [hp, iL_0, show iI 0 = iI ((0 : Nat) : Int) from rfl]
  exact spread_loop hm (K := fun M27 => some M27) (4 ^ n) p 0 d M S (by omega) h hE hI hB hd
theorem CB0 : CB ((fun _ => -1, []) : SS) := fun j hj => by cases hj
theorem SB0 {V : Nat → Prop} : SB V ((fun _ => -1, []) : SS) := ⟨List.nodup_nil, fun a ha => (nomatch ha), fun _ _ => rfl⟩
/-- from the start -/
theorem fromStart_I {m st : Nat} {M : Wd} (hm : m < 1000) (h : EL w n L G M) (hst : M.1 44 8 = iI (st : Int)) (hv : VV w L G n st) :
    ∃ M' S', F_X0_spreadFromStart (iI (m : Int)) M = some M' ∧ SE n M' S' ∧ CB S' ∧ BF (VV w L G n) (fun a => a = st) (nbC w L G n m) S' ∧ frB M M' := by
  unfold F_X0_spreadFromStart
  obtain ⟨M1, f1, f2, f3⟩ := forget_I h
  rw [f1, ob_s, f3.2.1 8 (by decide), hst, iL_0]
  obtain ⟨M2, g1, g2, g3⟩ := find_I (a := st) (d := 0) (h.fr f3) f2 SB0 CB0 hv (by omega) (by omega)
  rw [g1, ob_s]
  have hI := BI.begin (V := VV w L G n) (Src := fun a => a = st) (nb := nbC w L G n m) [st] (fun a ha => by rw [List.mem_singleton.mp ha]; exact hv) (fun a => List.mem_singleton)
  have hB : CB (visl 0 (fun _ => -1, []) [st]) := CBvisl (V := VV w L G n) (by omega) CB0 SB0 (by exact Int.le_refl 0) (fun a ha => by rw [List.mem_singleton.mp ha]; exact hv)
  obtain ⟨M3, S3, k1, k2, k3, k4, k5⟩ := spread_I hm ((h.fr f3).fr g3) g2 hI hB (fun h0 => by
    have h9 : (0 : Int) ≤ (vis 0 (fun _ => -1, []) st).1 ((vis 0 (fun _ => -1, []) st).2.getD 0 0) := (hI.1.2.1 _ (getD_mem h0)).2
    omega)
  rw [k1, ob_s]
  exact ⟨M3, S3, rfl, k2, k3, k4, (f3.tr g3).tr k5⟩
/-- whether the red car is out -/
def isE (G : Nat → Nat) (n a : Nat) : Bool := decide (0 < n) && decide (dg a 0 + G 0 = 5)
theorem isOutIn_I {M : Wd} (h : EL w n L G M) {a : Nat} (ha : a < 4 ^ n) : F_X0_isOutIn (iI (a : Int)) M = if isE G n a = true then iI 1 else iI 0 := by
  have hs := h.sz
  have hn := h.1.1
  unfold F_X0_isOutIn
  rw [h.2.1, iL_0, if_le (by omega) (by omega) (by omega) (by omega)]
  by_cases e : 0 < n
  · have hG := h.1.2.2 0 e
    rw [if_neg (by omega), show (4 : Int32) = iI ((4 : Nat) : Int) from rfl, iI_div _ _ (by omega) (by decide) (by decide), iI_mul, iI_sub, h.2.2.2.1 0 e, iI_add, show (5 : Int32) = iI 5 from rfl, if_eq (by omega) (by omega) (by omega) (by omega)]
    unfold isE
    rw [dg_0, decide_eq_true e, Bool.true_and]
    by_cases e2 : a % 4 + G 0 = 5
    · rw [if_pos (by omega), decide_eq_true e2, if_pos rfl]; rfl
    · rw [if_neg (by omega), decide_eq_false e2, if_neg (by decide)]
  · rw [if_pos (by omega)]
    unfold isE
    rw [decide_eq_false e, Bool.false_and, if_neg (by decide)]
/-- the possible arrangements in which the red car is out, below r -/
def ends (w : Nat) (L G : Nat → Nat) (n : Nat) : Nat → Nat → List Nat
  | _, 0 => []
  | i, r + 1 => (if isE G n i = true ∧ okc w L G n i = true then [i] else []) ++ ends w L G n (i + 1) r
theorem ends_mem {a : Nat} : ∀ {r i : Nat}, a ∈ ends w L G n i r ↔ i ≤ a ∧ a < i + r ∧ isE G n a = true ∧ okc w L G n a = true
  | 0, i => ⟨fun h => (nomatch h), fun h => by omega⟩
  | r + 1, i => by
    unfold ends
    rw [List.mem_append, ends_mem]
    by_cases e : isE G n i = true ∧ okc w L G n i = true
    · rw [if_pos e, List.mem_singleton]
      constructor
      · rintro (q | q)
        · subst q; exact ⟨by omega, by omega, e⟩
        · exact ⟨by omega, by omega, q.2.2⟩
      · rintro ⟨h1, h2, h3⟩
        by_cases e2 : a = i
        · exact Or.inl e2
        · exact Or.inr ⟨by omega, by omega, h3⟩
    · rw [if_neg e]
      constructor
      · rintro (q | q)
        · exact nomatch q
        · exact ⟨by omega, by omega, q.2.2⟩
      · rintro ⟨h1, h2, h3⟩
        by_cases e2 : a = i
        · subst e2; exact absurd h3 e
        · exact Or.inr ⟨by omega, by omega, h3⟩
theorem ends_loop {ρ : Type} {K : Wd → Option ρ} : ∀ (r q i : Nat) (M : Wd) (S : SS), i + r = 4 ^ n → EL w n L G M → SE n M S → SB (VV w L G n) S → CB S →
    ∃ M', F_X0_slidesFromEnds_L6 K (q + 1 + r) (iI (i : Int)) M = K M' ∧ SE n M' (visl 0 S (ends w L G n i r)) ∧ CB (visl 0 S (ends w L G n i r)) ∧ frB M M'
  | 0, q, i, M, S, hr, h, hE, hS, hB => by
    have hs := h.sz
    refine ⟨M, ?_, hE, hB, frB.rf M⟩
    show (if (M.1 44 7) ≤ iI (i : Int) then K M else _) = K M
    rw [h.2.2.1, if_le (by omega) (by omega) (by omega) (by omega), if_pos (by omega)]
  | r + 1, q, i, M, S, hr, h, hE, hS, hB => by
    have hs := h.sz
    show ∃ M', (if (M.1 44 7) ≤ iI (i : Int) then K M else obind (if (F_X0_isOutIn (iI (i : Int)) M) = 0 then some M else obind (F_X0_find (iI (i : Int)) (0 : Int32) M) fun M7 => some M7) fun M5 => bnd (iI (i : Int) + (1 : Int32)) fun v10 => F_X0_slidesFromEnds_L6 K (q + 1 + r) v10 M5) = K M' ∧ _
    rw [h.2.2.1, if_le (by omega) (by omega) (by omega) (by omega), if_neg (by omega), isOutIn_I h (by omega), i10_eq0]
    unfold ends
    rw [visl_app]
    have key : ∃ M1, (if isE G n i = true then obind (F_X0_find (iI (i : Int)) (0 : Int32) M) fun M7 => some M7 else some M) = some M1 ∧ SE n M1 (visl 0 S (if isE G n i = true ∧ okc w L G n i = true then [i] else [])) ∧ SB (VV w L G n) (visl 0 S (if isE G n i = true ∧ okc w L G n i = true then [i] else [])) ∧ CB (visl 0 S (if isE G n i = true ∧ okc w L G n i = true then [i] else [])) ∧ frB M M1 := by
      by_cases e1 : isE G n i = true
      · rw [if_pos e1]
        by_cases e2 : okc w L G n i = true
        · rw [if_pos ⟨e1, e2⟩]
          have hv : VV w L G n i := ⟨by omega, e2⟩
          obtain ⟨M1, f1, f2, f3⟩ := find_I (a := i) (d := 0) h hE hS hB hv (by omega) (by omega)
          rw [iL_0, f1, ob_s]
          exact ⟨M1, rfl, f2, SBvis hS (by omega) hv, CBvis hB hS (by omega), f3⟩
        · rw [if_neg (fun q => e2 q.2)]
          refine ⟨M, ?_, hE, hS, hB, frB.rf M⟩
          unfold F_X0_find
          rw [iL_0, if_lt (by omega) (by omega) (by omega) (by omega), if_neg (by omega), h.2.2.1, if_le (by omega) (by omega) (by omega) (by omega), if_neg (by omega), ldi_N (by omega) (by omega)]
          simp only [tk_m1 h (show i < 4 ^ n by omega)]
          rw [if_pos (Bool.eq_false_iff.mpr e2)]; rfl
      · rw [if_neg e1, if_neg (fun q => e1 q.1)]
        exact ⟨M, rfl, hE, hS, hB, frB.rf M⟩
    obtain ⟨M1, f1, f2, f3, f4, f5⟩ := key
    rw [f1, ob_s, bnd_v, iL_1, iI_add]
    obtain ⟨M2, k1, k2, k3, k4⟩ := ends_loop (K := K) r q (i + 1) M1 _ (by omega) (h.fr f5) f2 f3 f4
    exact ⟨M2, k1, k2, k3, f5.tr k4⟩
theorem fromEnds_I {st : Nat} {M : Wd} (h : EL w n L G M) (hst : M.1 44 8 = iI (st : Int)) (hv : VV w L G n st) :
    ∃ M' S', F_X0_slidesFromEnds M = some (iI (S'.1 st), M') ∧ SE n M' S' ∧ CB S' ∧ BF (VV w L G n) (fun a => a < 4 ^ n ∧ isE G n a = true ∧ okc w L G n a = true) (nbC w L G n 3) S' ∧ frB M M' := by
  have hs := h.sz
  unfold F_X0_slidesFromEnds
  obtain ⟨M1, f1, f2, f3⟩ := forget_I h
  rw [f1, ob_s]
  obtain ⟨p, hp⟩ := fuelS (4 ^ n) (by omega)
  rw [hp, iL_0, show iI 0 = iI ((0 : Nat) : Int) from rfl]
  obtain ⟨M2, g1, g2, g3, g4⟩ := ends_loop (K := fun M12 => obind (F_X0_spread (3 : Int32) M12) fun M13 => obind (F_X0_costOf (M13.1 44 8) M13) fun v15 => some (v15, M13)) (4 ^ n) p 0 M1 _ (by omega) (h.fr f3) f2 (SB0 (V := VV w L G n)) CB0
  rw [g1]
  have hI := BI.begin (V := VV w L G n) (Src := fun a => a < 4 ^ n ∧ isE G n a = true ∧ okc w L G n a = true) (nb := nbC w L G n 3) (ends w L G n 0 (4 ^ n)) (fun a ha => ⟨by have := (ends_mem.mp ha).2.1; omega, (ends_mem.mp ha).2.2.2⟩) (fun a => by rw [ends_mem]; constructor <;> (rintro ⟨h1, h2⟩; first | exact ⟨by omega, h2.2⟩ | exact ⟨by omega, by omega, h2⟩))
  obtain ⟨M3, S3, k1, k2, k3, k4, k5⟩ := spread_I (m := 3) (by omega) ((h.fr f3).fr g4) g2 hI g3 (fun h0 => by
    have := (hI.1.2.1 _ (getD_mem h0)).2
    omega)
  have h3 := ((h.fr f3).fr g4).fr k5
  have hfr := (f3.tr g4).tr k5
  rw [show (3 : Int32) = iI ((3 : Nat) : Int) from rfl, k1, ob_s, hfr.2.1 8 (by decide), hst, costOf_I h3 k2.1 hv.1, if_pos hv.2, ob_s]
  exact ⟨M3, S3, rfl, k2, k3, k4, hfr⟩
end XG
