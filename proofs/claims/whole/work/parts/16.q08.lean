/-! ===== the model's whole searches by slides ===== -/
section XN
variable {w n : Nat} {L G : Nat → Nat} {M : Wd} {S : SS}
/-- neighbours by cars c to c + r, back first -/
def nbH (w : Nat) (L G : Nat → Nat) (n m a : Nat) : Nat → Nat → List Nat
  | _, 0 => []
  | c, r + 1 => pth w L G n c false m a ++ (pth w L G n c true m a ++ nbH w L G n m a (c + 1) r)
theorem nbH_mem {m a v : Nat} : ∀ {r c : Nat}, v ∈ nbH w L G n m a c r ↔ ∃ k f, c ≤ k ∧ k < c + r ∧ v ∈ pth w L G n k f m a
  | 0, c => ⟨fun h => (nomatch h), fun ⟨k, _, h1, h2, _⟩ => by omega⟩
  | r + 1, c => by
    unfold nbH
    rw [List.mem_append, List.mem_append, nbH_mem]
    constructor
    · rintro (h | h | ⟨k, f, h1, h2, h3⟩)
      · exact ⟨c, false, by omega, by omega, h⟩
      · exact ⟨c, true, by omega, by omega, h⟩
      · exact ⟨k, f, by omega, by omega, h3⟩
    · rintro ⟨k, f, h1, h2, h3⟩
      by_cases e : k = c
      · subst e
        cases f with
        | true => exact Or.inr (Or.inl h3)
        | false => exact Or.inl h3
      · exact Or.inr (Or.inr ⟨k, f, by omega, by omega, h3⟩)
def nbM (w : Nat) (L G : Nat → Nat) (n m a : Nat) : List Nat := nbH w L G n m a 0 n
theorem nbCM (m u v : Nat) : v ∈ nbC w L G n m u ↔ v ∈ nbM w L G n m u := by
  unfold nbC nbM
  rw [nbF_mem, nbH_mem]
theorem nbH_ok {m a r c : Nat} (ha : a < 4 ^ n) (hc : c + r ≤ n) : ∀ v ∈ nbH w L G n m a c r, VV w L G n v := by
  intro v hv
  obtain ⟨k, f, h1, h2, h3⟩ := nbH_mem.mp hv
  exact pth_ok (by omega) ha v h3
theorem carsM_I {m i : Nat} (hm : m < 1000) {ρ : Type} {K : Wd → Option ρ} : ∀ (r c q : Nat) (M : Wd) (S : SS), c + r = n → PM w n L G M → SM M S → SB (VV w L G n) S → CB S → i < S.2.length →
    ∃ M', F_X4_spreads_L12 (iI (m : Int)) (iI (i : Int)) K (q + 1 + r) (iI (c : Int)) M = K M' ∧ SM M' (visl (S.1 (S.2.getD i 0) + 1) S (nbH w L G n m (S.2.getD i 0) c r)) ∧ frG M M'
  | 0, c, q, M, S, hr, h, hE, hS, hB, hi => by
    have hn := h.1.1
    refine ⟨M, ?_, hE, frG.rf M⟩
    show (if (M.1 53 9) ≤ iI (c : Int) then K M else _) = K M
    rw [h.2.1, if_le (by omega) (by omega) (by omega) (by omega), if_pos (by omega)]
  | r + 1, c, q, M, S, hr, h, hE, hS, hB, hi => by
    have hn := h.1.1
    have hs := h.sz
    have hl := nd_le hS.1 (fun b hb => (hS.2.1 b hb).1.1)
    have hu := (hS.2.1 _ (getD_mem hi)).1.1
    have hu0 := (hS.2.1 _ (getD_mem hi)).2
    have hdl := hB i hi
    have hc : c < n := by omega
    show ∃ M', (if (M.1 53 9) ≤ iI (c : Int) then K M else ldi (M.1 60) 4096 (iI (i : Int)) fun v3 => obind (F_X4_goes v3 (iI (c : Int)) (-1 : Int32) (iI (m : Int)) M) fun M6 => ldi (M6.1 60) 4096 (iI (i : Int)) fun v8 => obind (F_X4_goes v8 (iI (c : Int)) (1 : Int32) (iI (m : Int)) M6) fun M11 => bnd (iI (c : Int) + (1 : Int32)) fun v13 => F_X4_spreads_L12 (iI (m : Int)) (iI (i : Int)) K (q + 1 + r) v13 M11) = K M' ∧ _
    rw [h.2.1, if_le (by omega) (by omega) (by omega) (by omega), if_neg (by omega), ldi_N (by omega) (by omega), hE.2.1 i hi]
    obtain ⟨M1, f1, f2, f3⟩ := goes_I (f := false) h hE hS hB hc hm (getD_mem hi) (by omega)
    have hp1 : ∀ v ∈ pth w L G n c false m (S.2.getD i 0), VV w L G n v := pth_ok hc hu
    have hS1 := SBvisl (d := S.1 (S.2.getD i 0) + 1) (by omega) hS hp1
    have hB1 := CBvisl (d := S.1 (S.2.getD i 0) + 1) (by omega) hB hS (by omega) hp1
    have hg1 := Gvisl (S.1 (S.2.getD i 0) + 1) (pth w L G n c false m (S.2.getD i 0)) S
    have h1 := h.fr f3
    have hl1 := nd_le hS1.1 (fun b hb => (hS1.2.1 b hb).1.1)
    have hi1 : i < (visl (S.1 (S.2.getD i 0) + 1) S (pth w L G n c false m (S.2.getD i 0))).2.length := Nat.lt_of_lt_of_le hi hg1.2.2.1
    have eu := hg1.2.2.2 i hi
    have ec := hg1.1 (S.2.getD i 0) (by omega)
    have hdl1 := hB1 i hi1
    rw [eu] at hdl1
    rw [show (-1 : Int32) = iI (sgn false) from rfl, show (1 : Int32) = iI (sgn true) from rfl, f1, ob_s, ldi_N (by omega) (by omega), f2.2.1 i hi1, eu]
    obtain ⟨M2, g1, g2, g3⟩ := goes_I (f := true) h1 f2 hS1 hB1 hc hm (hg1.2.1 _ (getD_mem hi)) (by rw [ec]; omega)
    rw [ec] at g2
    have hp2 : ∀ v ∈ pth w L G n c true m (S.2.getD i 0), VV w L G n v := pth_ok hc hu
    have hg2 := Gvisl (S.1 (S.2.getD i 0) + 1) (pth w L G n c true m (S.2.getD i 0)) (visl (S.1 (S.2.getD i 0) + 1) S (pth w L G n c false m (S.2.getD i 0)))
    have hS2 := SBvisl (d := S.1 (S.2.getD i 0) + 1) (by omega) hS1 hp2
    have hB2 := CBvisl (d := S.1 (S.2.getD i 0) + 1) (by omega) hB1 hS1 (by omega) hp2
    have h2 := h1.fr g3
    rw [g1, ob_s, bnd_v, show iI (sgn true) = iI 1 from rfl, iI_add]
    have hg12 := hg1.tr hg2
    have eu2 := hg12.2.2.2 i hi
    have ec2 := hg12.1 (S.2.getD i 0) (by omega)
    obtain ⟨M3, k1, k2, k3⟩ := carsM_I (i := i) hm (K := K) r (c + 1) q M2 (visl (S.1 (S.2.getD i 0) + 1) (visl (S.1 (S.2.getD i 0) + 1) S (pth w L G n c false m (S.2.getD i 0))) (pth w L G n c true m (S.2.getD i 0))) (by omega) h2 g2 hS2 hB2 (by have := hg12.2.2.1; omega)
    refine ⟨M3, k1, ?_, (f3.tr g3).tr k3⟩
    rw [eu2, ec2] at k2
    unfold nbH
    rw [visl_app, visl_app]
    exact k2
theorem spreads_loop {m : Nat} {Src : Nat → Prop} (hm : m < 1000) {ρ : Type} {K : Wd → Option ρ} : ∀ (r q i : Nat) (d : Int) (M : Wd) (S : SS), i + r = 4 ^ n → PM w n L G M → SM M S → BI (VV w L G n) Src (nbM w L G n m) i d S → CB S → (i < S.2.length → d ≤ S.1 (S.2.getD i 0) + 1) →
    ∃ M' S', F_X4_spreads_L2 (iI (m : Int)) K (q + 1 + r) (iI (i : Int)) M = K M' ∧ SM M' S' ∧ CB S' ∧ BF (VV w L G n) Src (nbM w L G n m) S' ∧ frG M M'
  | 0, q, i, d, M, S, hr, h, hE, hI, hB, hd => by
    have hs := h.sz
    have hl := nd_le hI.1.1 (fun b hb => (hI.1.2.1 b hb).1.1)
    have h2 := hI.2.1
    refine ⟨M, S, ?_, hE, hB, ⟨d, ?_⟩, frG.rf M⟩
    · show (if (M.1 53 14) ≤ iI (i : Int) then K M else _) = K M
      rw [hE.2.2, if_le (by omega) (by omega) (by omega) (by omega), if_pos (by omega)]
    · rw [show S.2.length = i by omega]; exact hI
  | r + 1, q, i, d, M, S, hr, h, hE, hI, hB, hd => by
    have hs := h.sz
    have hl := nd_le hI.1.1 (fun b hb => (hI.1.2.1 b hb).1.1)
    have h2 := hI.2.1
    show ∃ M' S', (if (M.1 53 14) ≤ iI (i : Int) then K M else F_X4_spreads_L12 (iI (m : Int)) (iI (i : Int)) (fun M15 => bnd (iI (i : Int) + (1 : Int32)) fun v16 => F_X4_spreads_L2 (iI (m : Int)) K (q + 1 + r) v16 M15) fuelN (0 : Int32) M) = K M' ∧ _
    rw [hE.2.2, if_le (by omega) (by omega) (by omega) (by omega)]
    by_cases e : i < S.2.length
    · have hu := (hI.1.2.1 _ (getD_mem e)).1
      have hc0 := (hI.1.2.1 _ (getD_mem e)).2
      have hc1 := hB i e
      rw [if_neg (by omega)]
      obtain ⟨p, hp⟩ := fuelS n (by have := h.1.1; omega)
      rw [hp, iL_0, show iI 0 = iI ((0 : Nat) : Int) from rfl]
      obtain ⟨M1, f1, f2, f3⟩ := carsM_I (L := L) (G := G) (w := w) (n := n) (m := m) (i := i) hm (K := fun M15 => bnd (iI (i : Int) + (1 : Int32)) fun v16 => F_X4_spreads_L2 (iI (m : Int)) K (q + 1 + r) v16 M15) n 0 p M S (by omega) h hE hI.1 hB e
      rw [f1, bnd_v, iL_1, iI_add]
      have hok : ∀ v ∈ nbM w L G n m (S.2.getD i 0), VV w L G n v := nbH_ok hu.1 (by omega)
      have hI2 := hI.next e (hd e) hok (l := nbM w L G n m (S.2.getD i 0)) (fun v => Iff.rfl)
      have hB2 := CBvisl (V := VV w L G n) (d := S.1 (S.2.getD i 0) + 1) (by omega) hB hI.1 (by omega) hok
      have hg := Gvisl (S.1 (S.2.getD i 0) + 1) (nbM w L G n m (S.2.getD i 0)) S
      obtain ⟨M2, S2, k1, k2, k3, k4, k5⟩ := spreads_loop hm (K := K) r q (i + 1) _ M1 _ (by omega) (h.fr f3) f2 hI2 hB2 (fun hh => by
        have h9 := hI2.2.2.1 i (i + 1) (by omega) hh
        have h8 : (visl (S.1 (S.2.getD i 0) + 1) S (nbM w L G n m (S.2.getD i 0))).2.getD i 0 = S.2.getD i 0 := hg.2.2.2 i e
        rw [h8, hg.1 _ (by omega)] at h9
        exact Int.add_le_add_right h9 1)
      exact ⟨M2, S2, k1, k2, k3, k4, f3.tr k5⟩
    · rw [if_pos (by omega)]
      refine ⟨M, S, rfl, hE, hB, ⟨d, ?_⟩, frG.rf M⟩
      rw [show S.2.length = i by omega]; exact hI
theorem spreads_I {m : Nat} {Src : Nat → Prop} {d : Int} (hm : m < 1000) (h : PM w n L G M) (hE : SM M S) (hI : BI (VV w L G n) Src (nbM w L G n m) 0 d S) (hB : CB S) (hd : 0 < S.2.length → d ≤ S.1 (S.2.getD 0 0) + 1) :
    ∃ M' S', F_X4_spreads (iI (m : Int)) M = some M' ∧ SM M' S' ∧ CB S' ∧ BF (VV w L G n) Src (nbM w L G n m) S' ∧ frG M M' := by
  have hs := h.sz
  unfold F_X4_spreads
  obtain ⟨p, hp⟩ := fuelS (4 ^ n) (by omega)
  rw [hp, iL_0, show iI 0 = iI ((0 : Nat) : Int) from rfl]
  exact spreads_loop hm (K := fun M27 => some M27) (4 ^ n) p 0 d M S (by omega) h hE hI hB hd
theorem forgets_loop {ρ : Type} {K : Wd → Option ρ} : ∀ (r q i : Nat) (M : Wd), i + r = 4096 → (∀ a, a < i → M.1 59 a = iI (-1)) →
    ∃ M', F_X4_forgets_L2 K (q + 1 + r) (iI (i : Int)) M = K M' ∧ (∀ a, a < 4096 → M'.1 59 a = iI (-1)) ∧ frG M M'
  | 0, q, i, M, hr, hF => by
    refine ⟨M, ?_, fun a ha => hF a (by omega), frG.rf M⟩
    show (if (4096 : Int32) ≤ iI (i : Int) then K M else _) = K M
    rw [show (4096 : Int32) = iI 4096 from rfl, if_le (by omega) (by omega) (by omega) (by omega), if_pos (by omega)]
  | r + 1, q, i, M, hr, hF => by
    show ∃ M', (if (4096 : Int32) ≤ iI (i : Int) then K M else inb 4096 (iI (i : Int)) <| bnd (iI (i : Int) + (1 : Int32)) fun v3 => F_X4_forgets_L2 K (q + 1 + r) v3 (upI M 59 (iI (i : Int)).toNatClampNeg (-1 : Int32))) = K M' ∧ _
    rw [show (4096 : Int32) = iI 4096 from rfl, if_le (by omega) (by omega) (by omega) (by omega), if_neg (by omega), inb_N (by omega) (by omega), bnd_v, iI_clN (by omega), iL_m1, iL_1, iI_add]
    have hf : frG M (upI M 59 i (iI (-1))) := ⟨fun c h1 h2 h3 => upI_row_ne h1, fun j hj => by rw [upI_row_ne (by decide)], rfl⟩
    obtain ⟨M1, k1, k2, k3⟩ := forgets_loop (K := K) r q (i + 1) (upI M 59 i (iI (-1))) (by omega) (fun a ha => by
      rw [upI_row]
      show upd (M.1 59) i (iI (-1)) a = _
      by_cases e : a = i
      · exact if_pos e
      · rw [← hF a (by omega)]; exact if_neg e)
    exact ⟨M1, k1, k2, hf.tr k3⟩
theorem forgets_I (M : Wd) : ∃ M', F_X4_forgets M = some M' ∧ SM M' (fun _ => -1, []) ∧ frG M M' := by
  unfold F_X4_forgets
  obtain ⟨p, hp⟩ := fuelS 4096 (by omega)
  rw [hp, iL_0, show iI 0 = iI ((0 : Nat) : Int) from rfl]
  obtain ⟨M1, k1, k2, k3⟩ := forgets_loop (K := fun M6 => some (upI M6 53 14 (iI ((0 : Nat) : Int)))) 4096 p 0 M (by omega) (fun a ha => by omega)
  refine ⟨_, k1, ⟨fun a ha => ?_, fun j hj => (by cases hj), ?_⟩, k3.tr ⟨fun c h1 h2 h3 => upI_row_ne h3, fun j hj => ?_, rfl⟩⟩
  · rw [upI_row_ne (by decide)]; exact k2 a ha
  · rw [upI_row]; exact if_pos rfl
  · rw [upI_row]; exact if_neg hj
theorem from_I {m st : Nat} (hm : m < 1000) (h : PM w n L G M) (hv : VV w L G n st) :
    ∃ M' S', F_X4_from (iI (st : Int)) (iI (m : Int)) M = some M' ∧ SM M' S' ∧ CB S' ∧ BF (VV w L G n) (fun a => a = st) (nbM w L G n m) S' ∧ frG M M' := by
  unfold F_X4_from
  obtain ⟨M1, f1, f2, f3⟩ := forgets_I M
  rw [f1, ob_s, iL_0]
  obtain ⟨M2, g1, g2, g3⟩ := reaches_I (a := st) (d := 0) f2 h.1.1 (SB0 (V := VV w L G n)) CB0 hv
  rw [g1, ob_s]
  have hI := BI.begin (V := VV w L G n) (Src := fun a => a = st) (nb := nbM w L G n m) [st] (fun a ha => by rw [List.mem_singleton.mp ha]; exact hv) (fun a => List.mem_singleton)
  have hB : CB (visl 0 (fun _ => -1, []) [st]) := CBvisl (V := VV w L G n) (by omega) CB0 SB0 (by exact Int.le_refl 0) (fun a ha => by rw [List.mem_singleton.mp ha]; exact hv)
  obtain ⟨M3, S3, k1, k2, k3, k4, k5⟩ := spreads_I hm ((h.fr f3).fr g3) g2 hI hB (fun h0 => by
    have h9 : (0 : Int) ≤ (vis 0 (fun _ => -1, []) st).1 ((vis 0 (fun _ => -1, []) st).2.getD 0 0) := (hI.1.2.1 _ (getD_mem h0)).2
    omega)
  rw [k1, ob_s]
  exact ⟨M3, S3, rfl, k2, k3, k4, (f3.tr g3).tr k5⟩
theorem size_I (h : PM w n L G M) : (1 : Int32) <<< (((2 : Int32) * (M.1 53 9)) &&& 31) = iI ((4 ^ n : Nat) : Int) := by
  have hn := h.1.1
  rw [h.2.1, show (2 : Int32) = iI ((2 : Nat) : Int) from rfl, iI_mul, show ((2 : Nat) : Int) * (n : Int) = ((2 * n : Nat) : Int) by omega, show (1 : Int32) = iI ((1 : Nat) : Int) from rfl, iI_shl _ _ (by omega), pow4, Nat.one_mul]
theorem endsM_loop {ρ : Type} {K : Wd → Option ρ} : ∀ (r q i : Nat) (M : Wd) (S : SS), i + r = 4 ^ n → PM w n L G M → SM M S → SB (VV w L G n) S → CB S →
    ∃ M', F_X4_fromEnds_L6 K (q + 1 + r) (iI (i : Int)) M = K M' ∧ SM M' (visl 0 S (ends w L G n i r)) ∧ CB (visl 0 S (ends w L G n i r)) ∧ frG M M'
  | 0, q, i, M, S, hr, h, hE, hS, hB => by
    have hs := h.sz
    refine ⟨M, ?_, hE, hB, frG.rf M⟩
    show (if ((1 : Int32) <<< (((2 : Int32) * (M.1 53 9)) &&& 31)) ≤ iI (i : Int) then K M else _) = K M
    rw [size_I h, if_le (by omega) (by omega) (by omega) (by omega), if_pos (by omega)]
  | r + 1, q, i, M, S, hr, h, hE, hS, hB => by
    have hs := h.sz
    show ∃ M', (if ((1 : Int32) <<< (((2 : Int32) * (M.1 53 9)) &&& 31)) ≤ iI (i : Int) then K M else obind (if (F_X4_isEnd (iI (i : Int)) M) = 0 then some M else obind (F_X4_isWhole (iI (i : Int)) M) fun v7 => if v7 = 0 then some M else obind (F_X4_reaches (iI (i : Int)) (0 : Int32) M) fun M11 => some M11) fun M5 => bnd (iI (i : Int) + (1 : Int32)) fun v14 => F_X4_fromEnds_L6 K (q + 1 + r) v14 M5) = K M' ∧ _
    rw [size_I h, if_le (by omega) (by omega) (by omega) (by omega), if_neg (by omega), isEnd_I h (by omega), i10_eq0]
    unfold ends
    rw [visl_app]
    have key : ∃ M1, (if isE G n i = true then obind (F_X4_isWhole (iI (i : Int)) M) fun v7 => if v7 = 0 then some M else obind (F_X4_reaches (iI (i : Int)) (0 : Int32) M) fun M11 => some M11 else some M) = some M1 ∧ SM M1 (visl 0 S (if isE G n i = true ∧ okc w L G n i = true then [i] else [])) ∧ SB (VV w L G n) (visl 0 S (if isE G n i = true ∧ okc w L G n i = true then [i] else [])) ∧ CB (visl 0 S (if isE G n i = true ∧ okc w L G n i = true then [i] else [])) ∧ frG M M1 := by
      by_cases e1 : isE G n i = true
      · rw [if_pos e1, isWhole_I h (show i < 4 ^ n by omega), ob_s, i10_eq0]
        by_cases e2 : okc w L G n i = true
        · rw [if_pos e2, if_pos ⟨e1, e2⟩]
          have hv : VV w L G n i := ⟨by omega, e2⟩
          obtain ⟨M1, f1, f2, f3⟩ := reaches_I (a := i) (d := 0) hE h.1.1 hS hB hv
          rw [iL_0, f1, ob_s]
          exact ⟨M1, rfl, f2, SBvis hS (by omega) hv, CBvis hB hS (by omega), f3⟩
        · rw [if_neg e2, if_neg (fun q => e2 q.2)]
          exact ⟨M, rfl, hE, hS, hB, frG.rf M⟩
      · rw [if_neg e1, if_neg (fun q => e1 q.1)]
        exact ⟨M, rfl, hE, hS, hB, frG.rf M⟩
    obtain ⟨M1, f1, f2, f3, f4, f5⟩ := key
    rw [f1, ob_s, bnd_v, iL_1, iI_add]
    obtain ⟨M2, k1, k2, k3, k4⟩ := endsM_loop (K := K) r q (i + 1) M1 _ (by omega) (h.fr f5) f2 f3 f4
    exact ⟨M2, k1, k2, k3, f5.tr k4⟩
theorem fromEndsM_I (h : PM w n L G M) :
    ∃ M' S', F_X4_fromEnds M = some M' ∧ SM M' S' ∧ CB S' ∧ BF (VV w L G n) (fun a => a < 4 ^ n ∧ isE G n a = true ∧ okc w L G n a = true) (nbM w L G n 3) S' ∧ frG M M' := by
  have hs := h.sz
  unfold F_X4_fromEnds
  obtain ⟨M1, f1, f2, f3⟩ := forgets_I M
  rw [f1, ob_s]
  obtain ⟨p, hp⟩ := fuelS (4 ^ n) (by omega)
  rw [hp, iL_0, show iI 0 = iI ((0 : Nat) : Int) from rfl]
  obtain ⟨M2, g1, g2, g3, g4⟩ := endsM_loop (K := fun M16 => obind (F_X4_spreads (3 : Int32) M16) fun M17 => some M17) (4 ^ n) p 0 M1 _ (by omega) (h.fr f3) f2 (SB0 (V := VV w L G n)) CB0
  rw [g1]
  have hI := BI.begin (V := VV w L G n) (Src := fun a => a < 4 ^ n ∧ isE G n a = true ∧ okc w L G n a = true) (nb := nbM w L G n 3) (ends w L G n 0 (4 ^ n)) (fun a ha => ⟨by have := (ends_mem.mp ha).2.1; omega, (ends_mem.mp ha).2.2.2⟩) (fun a => by rw [ends_mem]; constructor <;> (rintro ⟨h1, h2⟩; first | exact ⟨by omega, h2.2⟩ | exact ⟨by omega, by omega, h2⟩))
  obtain ⟨M3, S3, k1, k2, k3, k4, k5⟩ := spreads_I (m := 3) (by omega) ((h.fr f3).fr g4) g2 hI g3 (fun h0 => by
    have := (hI.1.2.1 _ (getD_mem h0)).2
    omega)
  rw [show (3 : Int32) = iI ((3 : Nat) : Int) from rfl, k1, ob_s]
  exact ⟨M3, S3, rfl, k2, k3, k4, (f3.tr g4).tr k5⟩
end XN
/-! ===== both find the same ===== -/
theorem BF_same {w n m : Nat} {L G : Nat → Nat} {Src : Nat → Prop} {S T : SS} (h : BF (VV w L G n) Src (nbC w L G n m) S) (h2 : BF (VV w L G n) Src (nbM w L G n m) T) : S.1 = T.1 ∧ S.2.Perm T.2 := BF.eq h h2 (fun u v => nbCM m u v)
