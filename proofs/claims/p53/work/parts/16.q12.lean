/-! ===== the class's least fuel by buckets ===== -/
section WK
variable {w n s : Nat} {L G : Nat → Nat}
def frK (M M' : Wd) : Prop := (∀ c, c ≠ 47 → c ≠ 48 → c ≠ 49 → c ≠ 50 → c ≠ 44 → M'.1 c = M.1 c) ∧ (∀ j, j ≠ 9 → M'.1 44 j = M.1 44 j) ∧ M'.2 = M.2
theorem frK.rf (M : Wd) : frK M M := ⟨fun _ _ _ _ _ _ => rfl, fun _ _ => rfl, rfl⟩
theorem frK.tr {M N O : Wd} (h : frK M N) (h2 : frK N O) : frK M O := ⟨fun c a b d e f => by rw [h2.1 c a b d e f, h.1 c a b d e f], fun j hj => by rw [h2.2.1 j hj, h.2.1 j hj], by rw [h2.2.2, h.2.2]⟩
theorem frB.K {M N : Wd} (h : frB M N) : frK M N := ⟨fun c a b _ _ e => h.1 c a b e, h.2.1, h.2.2⟩
theorem EL.frk {M M' : Wd} (h : EL w n L G M) (hf : frK M M') : EL w n L G M' := by
  obtain ⟨h0, h1, h2, h3, h4⟩ := h
  refine ⟨h0, by rw [hf.2.1 6 (by decide)]; exact h1, by rw [hf.2.1 7 (by decide)]; exact h2, fun i hi => by rw [hf.1 45 (by decide) (by decide) (by decide) (by decide) (by decide)]; exact h3 i hi, fun a ha => by rw [hf.1 46 (by decide) (by decide) (by decide) (by decide) (by decide)]; exact h4 a ha⟩
def BK (M : Wd) (B : Nat → List Nat) : Prop := ∀ j, j < 4 → M.1 50 j = iI ((B j).length : Nat) ∧ ∀ i, i < (B j).length → M.1 49 (4096 * j + i) = iI ((B j).getD i 0 : Nat)
def BV (w : Nat) (L G : Nat → Nat) (n f : Nat) (co : Nat → Int) (B : Nat → List Nat) : Prop :=
  (∀ c, f ≤ c → c ≤ f + 3 → (B (c % 4)).Nodup ∧ ∀ v ∈ B (c % 4), VV w L G n v ∧ 0 ≤ co v ∧ co v ≤ (c : Int)) ∧ ∀ v, (f : Int) ≤ co v → co v ≤ (f : Int) + 3 ∧ v ∈ B ((co v).toNat % 4)
theorem BV.len {f : Nat} {co : Nat → Int} {B : Nat → List Nat} (h : BV w L G n f co B) {j : Nat} (hj : j < 4) : (B j).length ≤ 4 ^ n := by
  have h1 := h.1 (f + (j + 4 - f % 4) % 4) (by omega) (by omega)
  rw [show (f + (j + 4 - f % 4) % 4) % 4 = j by omega] at h1
  exact nd_le h1.1 fun a ha => (h1.2 a ha).1.1
theorem and3_I (d : Nat) : iI (d : Int) &&& (3 : Int32) = iI ((d % 4 : Nat) : Int) := by
  rw [show (3 : Int32) = iI ((3 : Nat) : Int) from rfl, iI_and, show d &&& 3 = d % 4 from Nat.and_two_pow_sub_one_eq_mod d 2]
theorem cheapen_m1 {M : Wd} {d : Int32} : F_X0_cheapen (iI (-1)) d M = some M := by
  unfold F_X0_cheapen
  rw [bnd_v, isCheaper_m1, ob_s, if_pos (show iI 0 = (0 : Int32) from rfl)]
theorem cheapen_I {M : Wd} (h : EL w n L G M) {co : Nat → Int} {B : Nat → List Nat} (hc : CE n M co) (hK : BK M B) {f d : Nat} (hV : BV w L G n f co B) (hl : ∀ a, -1 ≤ co a) (hh : ∀ a, co a ≤ 12285) (hd1 : f ≤ d) (hd2 : d ≤ f + 3) (hd3 : d ≤ 100000) {v : Nat} (hv : VV w L G n v) :
    ∃ M' B', F_X0_cheapen (iI (v : Int)) (iI (d : Int)) M = some M' ∧ CE n M' (rlx co v d) ∧ BK M' B' ∧ BV w L G n f (rlx co v d) B' ∧ (∀ j, j ≠ d % 4 → B' j = B j) ∧ frK M M' := by
  have hs := h.sz
  have hv1 := hv.1
  have hlv := hl v
  have hhv := hh v
  unfold F_X0_cheapen
  rw [bnd_v, and3_I, isCheaper_I h hc hv (hl v) (by omega) (by omega) (by omega), ob_s, i10_eq0]
  by_cases e : co v = -1 ∨ (d : Int) < co v
  · have hnm : v ∉ B (d % 4) := fun hm => by
      have := ((hV.1 d hd1 hd2).2 v hm).2
      omega
    have hdd : d % 4 < 4 := by omega
    have hlen : (B (d % 4)).length < 4 ^ n := by
      have h1 : (B (d % 4) ++ [v]).Nodup := by
        rw [List.nodup_iff_pairwise_ne, List.pairwise_append]
        refine ⟨(hV.1 d hd1 hd2).1, List.pairwise_singleton _ _, fun x hx y hy => ?_⟩
        rw [List.mem_singleton.mp hy]
        exact fun q => hnm (q ▸ hx)
      have h2 := nd_le (N := 4 ^ n) h1 (fun a ha => by
        rcases List.mem_append.mp ha with q | q
        · exact ((hV.1 d hd1 hd2).2 a q).1.1
        · rw [List.mem_singleton.mp q]; exact hv.1)
      rw [List.length_append, List.length_singleton] at h2
      omega
    have e1 : ((d % 4 : Nat) : Int) * 4096 + ((B (d % 4)).length : Int) = ((4096 * (d % 4) + (B (d % 4)).length : Nat) : Int) := by omega
    rw [if_pos e, ldi_N (by omega) (by omega), (hK _ hdd).1, show (4096 : Int32) = iI 4096 from rfl, if_le (by omega) (by omega) (by omega) (by omega), if_neg (by omega), inb_N (by omega) (by omega), ldi_N (by omega) (by omega), (hK _ hdd).1, iI_mul, iI_add, e1, inb_N (by omega) (by omega), ldi_N (by omega) (by omega), (hK _ hdd).1, inb_N (by omega) (by omega), iI_clN (by omega), iI_clN (by omega), iI_clN (by omega), iL_1, iI_add]
    refine ⟨_, fun j => if j = d % 4 then B j ++ [v] else B j, rfl, ?_, ?_, ?_, fun j hj => if_neg hj, ?_⟩
    · rw [rlx_y e]
      exact (hc.up1 (v := v) (d := (d : Int))).fr fun a _ => by rw [upI_row_ne (by decide), upI_row_ne (by decide)]
    · intro j hj
      by_cases ej : j = d % 4
      · subst ej
        simp only [if_true]
        refine ⟨?_, fun i hi => ?_⟩
        · rw [upI_row]
          show upd _ (d % 4) _ (d % 4) = _
          rw [List.length_append, List.length_singleton]
          exact if_pos rfl
        · rw [List.length_append, List.length_singleton] at hi
          rw [upI_row_ne (by decide), upI_row, upI_row_ne (by decide)]
          show upd (M.1 49) (4096 * (d % 4) + (B (d % 4)).length) (iI (v : Int)) (4096 * (d % 4) + i) = _
          by_cases ei : i < (B (d % 4)).length
          · rw [getD_app ei, ← (hK _ hdd).2 i ei]; exact if_neg (by omega)
          · have : i = (B (d % 4)).length := by omega
            subst this
            rw [getD_last]; exact if_pos rfl
      · simp only [if_neg ej]
        have hlj := hV.len hj
        refine ⟨?_, fun i hi => ?_⟩
        · rw [upI_row, ← (hK j hj).1]
          show upd _ (d % 4) _ j = _
          rw [upI_row_ne (by decide), upI_row_ne (by decide)]
          exact if_neg ej
        · rw [upI_row_ne (by decide), upI_row, upI_row_ne (by decide), ← (hK j hj).2 i hi]
          exact if_neg (by omega)
    · refine ⟨fun c c1 c2 => ?_, fun a ha => ?_⟩
      · obtain ⟨q1, q2⟩ := hV.1 c c1 c2
        by_cases ec : c % 4 = d % 4
        · have ecd : c = d := by omega
          subst ecd
          simp only [if_true]
          refine ⟨?_, fun a ha => ?_⟩
          · rw [List.nodup_iff_pairwise_ne, List.pairwise_append]
            refine ⟨q1, List.pairwise_singleton _ _, fun x hx y hy => ?_⟩
            rw [List.mem_singleton.mp hy]
            exact fun q => hnm (q ▸ hx)
          · by_cases ea : a = v
            · subst ea; rw [rlx_v e]; exact ⟨hv, by omega, by omega⟩
            · rw [rlx_ne ea]
              rcases List.mem_append.mp ha with q | q
              · exact q2 a q
              · exact absurd (List.mem_singleton.mp q) ea
        · simp only [if_neg ec]
          refine ⟨q1, fun a ha => ?_⟩
          have q3 := q2 a ha
          by_cases ea : a = v
          · subst ea; rw [rlx_v e]; exact ⟨hv, by omega, by omega⟩
          · rw [rlx_ne ea]; exact q3
      · show rlx co v (d : Int) a ≤ (f : Int) + 3 ∧ a ∈ (if (rlx co v (d : Int) a).toNat % 4 = d % 4 then B ((rlx co v (d : Int) a).toNat % 4) ++ [v] else B ((rlx co v (d : Int) a).toNat % 4))
        by_cases ea : a = v
        · subst ea
          rw [rlx_v e, Int.toNat_natCast, if_pos rfl]
          exact ⟨by omega, List.mem_append_right _ (List.mem_singleton.mpr rfl)⟩
        · rw [rlx_ne ea] at ha ⊢
          obtain ⟨q1, q2⟩ := hV.2 a ha
          refine ⟨q1, ?_⟩
          by_cases ec : (co a).toNat % 4 = d % 4
          · rw [if_pos ec]; exact List.mem_append_left _ q2
          · rw [if_neg ec]; exact q2
    · refine ⟨fun c h1 h2 h3 h4 h5 => ?_, fun j hj => ?_, rfl⟩
      · rw [upI_row_ne h4, upI_row_ne h3, upI_row_ne h1]
      · rw [upI_row_ne (by decide), upI_row_ne (by decide), upI_row_ne (by decide)]
  · rw [if_neg e, rlx_n e]
    exact ⟨M, B, rfl, hc, hK, hV, fun j _ => rfl, frK.rf M⟩
/-- labels up to f stay -/
def Kp (f : Nat) (co cp : Nat → Int) : Prop := ∀ a, (0 ≤ co a ∧ co a ≤ f) ∨ (0 ≤ cp a ∧ cp a ≤ f) → cp a = co a
theorem Kp.rf (f : Nat) (co : Nat → Int) : Kp f co co := fun _ _ => rfl
theorem Kp.tr {f : Nat} {co cp cq : Nat → Int} (h : Kp f co cp) (h2 : Kp f cp cq) : Kp f co cq := fun a ha => by
  rcases ha with ha | ha
  · have e := h a (Or.inl ha)
    rw [h2 a (Or.inl (by omega)), e]
  · have e := h2 a (Or.inr ha)
    rw [e, h a (Or.inr (by omega))]
theorem Kp.rlx {f : Nat} {co : Nat → Int} {v : Nat} {d : Int} (hd : (f : Int) < d) : Kp f co (rlx co v d) := fun a ha => by
  by_cases e : a = v
  · subst e
    by_cases e2 : co a = -1 ∨ d < co a
    · rw [rlx_v e2] at ha
      omega
    · rw [rlx_n e2]
  · exact rlx_ne e
theorem ocheap_I {M : Wd} (h : EL w n L G M) {co0 co : Nat → Int} {B : Nat → List Nat} (hc : CE n M co) (hK : BK M B) {f u c : Nat} {fw : Bool} {D : Nat → Bool → Prop} (hV : BV w L G n f co B) (hR : Rx w L G n s co0 u D co) (hu : VV w L G n u) (hf : co0 u = (f : Int)) (hcn : c < n) :
    ∃ M' B', F_X0_cheapen (oI (stp w L G n c fw u)) (iI ((f : Int) + (G c : Int))) M = some M' ∧ CE n M' (rlo co (stp w L G n c fw u) ((f : Int) + (G c : Int))) ∧ BK M' B' ∧ BV w L G n f (rlo co (stp w L G n c fw u) ((f : Int) + (G c : Int))) B' ∧ B' (f % 4) = B (f % 4) ∧ Kp f co (rlo co (stp w L G n c fw u) ((f : Int) + (G c : Int))) ∧ frK M M' := by
  have hs := h.sz
  have hG := h.1.2.2 c hcn
  have hb := hR.2.1.hi hs
  have hfu := hR.2.2.2.1
  have hfb := hb u
  cases e : stp w L G n c fw u with
  | none => exact ⟨M, B, cheapen_m1, hc, hK, hV, rfl, Kp.rf f co, frK.rf M⟩
  | some v =>
    obtain ⟨M', B', f1, f2, f3, f4, f5, f6⟩ := cheapen_I h hc hK (f := f) (d := f + G c) hV hR.1.1 hb (by omega) (by omega) (by omega) (stp_ok hu.1 hcn e)
    exact ⟨M', B', f1, f2, f3, f4, f5 _ (by omega), Kp.rlx (by omega), f6⟩
theorem bcars_loop {co0 : Nat → Int} {u f i cnt : Nat} (hu : VV w L G n u) (hf : co0 u = (f : Int)) {ρ : Type} {K : Wd → Option ρ} : ∀ (r c q : Nat) (M : Wd) (co : Nat → Int) (B : Nat → List Nat), c + r = n → EL w n L G M → CE n M co → BK M B → BV w L G n f co B → Rx w L G n s co0 u (fun c' _ => c' < c) co → Kp f co0 co →
    ∃ M' co' B', F_X0_emptyBucket_L27 (iI (f : Int)) (iI (cnt : Int)) (iI (i : Int)) (iI (u : Int)) K (q + 1 + r) (iI (c : Int)) M = K M' ∧ CE n M' co' ∧ BK M' B' ∧ BV w L G n f co' B' ∧ Rx w L G n s co0 u (fun c' _ => c' < n) co' ∧ Kp f co0 co' ∧ B' (f % 4) = B (f % 4) ∧ frK M M'
  | 0, c, q, M, co, B, hr, h, hc, hK, hV, hR, hp => by
    have hn := h.1.1
    refine ⟨M, co, B, ?_, hc, hK, hV, by rw [show c = n by omega] at hR; exact hR, hp, rfl, frK.rf M⟩
    show (if (M.1 44 6) ≤ iI (c : Int) then K M else _) = K M
    rw [h.2.1, if_le (by omega) (by omega) (by omega) (by omega), if_pos (by omega)]
  | r + 1, c, q, M, co, B, hr, h, hc, hK, hV, hR, hp => by
    have hn := h.1.1
    have hs := h.sz
    have hu1 := hu.1
    have hcn : c < n := by omega
    show ∃ M' co' B', (if (M.1 44 6) ≤ iI (c : Int) then K M else if (6 : Int32) ≤ iI (c : Int) then K M else if iI (u : Int) = (-1 : Int32) then K M else obind (F_X0_behindStep (iI (u : Int)) (iI (c : Int)) (iI (sgn true)) M) fun v11 => ldi (M.1 45) 6 (iI (c : Int)) fun v14 => obind (F_X0_cheapen v11 (iI (f : Int) + v14) M) fun M17 => obind (F_X0_behindStep (iI (u : Int)) (iI (c : Int)) (iI (sgn false)) M17) fun v19 => ldi (M17.1 45) 6 (iI (c : Int)) fun v22 => obind (F_X0_cheapen v19 (iI (f : Int) + v22) M17) fun M25 => bnd (iI (c : Int) + (1 : Int32)) fun v27 => F_X0_emptyBucket_L27 (iI (f : Int)) (iI (cnt : Int)) (iI (i : Int)) (iI (u : Int)) K (q + 1 + r) v27 M25) = K M' ∧ _
    rw [h.2.1, if_le (by omega) (by omega) (by omega) (by omega), if_neg (by omega), show (6 : Int32) = iI 6 from rfl, if_le (by omega) (by omega) (by omega) (by omega), if_neg (by omega), iL_m1, if_eq (by omega) (by omega) (by omega) (by omega), if_neg (by omega), behindStep_I h hu.1 hcn, ob_s, ldi_N (by omega) (by omega), h.2.2.2.1 c hcn, iI_add]
    obtain ⟨M1, B1, f1, f2, f3, f4, f5, f6, f7⟩ := ocheap_I h hc hK (fw := true) hV hR hu hf hcn
    have h1 := h.frk f7
    have hR1 := hR.step h.1.2.2 (f := true) (by omega) hcn
    rw [hf] at hR1
    rw [f1, ob_s, behindStep_I h1 hu.1 hcn, ob_s, ldi_N (by omega) (by omega), h1.2.2.2.1 c hcn, iI_add]
    obtain ⟨M2, B2, g1, g2, g3, g4, g5, g6, g7⟩ := ocheap_I h1 f2 f3 (fw := false) f4 hR1 hu hf hcn
    have h2 := h1.frk g7
    have hR2 := hR1.step h.1.2.2 (f := false) (by omega) hcn
    rw [hf] at hR2
    rw [g1, ob_s, bnd_v, iL_1, iI_add]
    obtain ⟨M3, co3, B3, k1, k2, k3, k4, k5, k6, k7, k8⟩ := bcars_loop hu hf (K := K) r (c + 1) q M2 _ B2 (by omega) h2 g2 g3 g4 (hR2.weak (fun c' f' hc' => by
      by_cases e : c' = c
      · cases f' with
        | true => exact Or.inl (Or.inr ⟨e, rfl⟩)
        | false => exact Or.inr ⟨e, rfl⟩
      · exact Or.inl (Or.inl (by omega)))) ((hp.tr f6).tr g6)
    exact ⟨M3, co3, B3, k1, k2, k3, k4, k5, k6, by rw [k7, g5, f5], (f7.tr g7).tr k8⟩
theorem inBucket_I {M : Wd} (h : EL w n L G M) {co : Nat → Int} {B : Nat → List Nat} (hc : CE n M co) (hK : BK M B) {f i : Nat} (hV : BV w L G n f co B) (h1 : ∀ a, 0 ≤ co a → VV w L G n a) (hl : ∀ a, -1 ≤ co a) (hh : ∀ a, co a ≤ 12285) (hf : f ≤ 100000) (hi : i < (B (f % 4)).length) :
    F_X0_inBucket (iI (f : Int)) (iI (i : Int)) M = some (if co ((B (f % 4)).getD i 0) = (f : Int) then iI (((B (f % 4)).getD i 0 : Nat) : Int) else iI (-1)) := by
  have hs := h.sz
  have hdd : f % 4 < 4 := by omega
  have hlen := hV.len hdd
  have hv := ((hV.1 f (by omega) (by omega)).2 _ (getD_mem hi)).1
  have e1 : ((f % 4 : Nat) : Int) * 4096 + (i : Int) = ((4096 * (f % 4) + i : Nat) : Int) := by omega
  have q1 := hl ((B (f % 4)).getD i 0)
  have q2 := hh ((B (f % 4)).getD i 0)
  unfold F_X0_inBucket
  rw [and3_I, show (4096 : Int32) = iI 4096 from rfl, iI_mul, iI_add, e1, bnd_v, iL_0, if_lt (by omega) (by omega) (by omega) (by omega), if_neg (by omega), show (16384 : Int32) = iI 16384 from rfl, if_le (by omega) (by omega) (by omega) (by omega), if_neg (by omega), ldi_N (by omega) (by omega), (hK _ hdd).2 i hi, ob_s, costOf_V h hc h1 hl hv.1, ob_s, if_eq (by omega) (by omega) (by omega) (by omega)]
  by_cases e : co ((B (f % 4)).getD i 0) = (f : Int)
  · rw [if_pos e, if_pos e]
  · rw [if_neg e, if_neg e]; rfl
theorem hasOut_loop {M : Wd} (h : EL w n L G M) {co : Nat → Int} {B : Nat → List Nat} (hc : CE n M co) (hK : BK M B) {f : Nat} (hV : BV w L G n f co B) (h1 : ∀ a, 0 ≤ co a → VV w L G n a) (hl : ∀ a, -1 ≤ co a) (hh : ∀ a, co a ≤ 12285) (hf : f ≤ 100000) {ρ : Type} {K1 K2 : Option ρ} : ∀ (r i q : Nat), i + r = (B (f % 4)).length →
    ∃ b : Bool, F_X0_hasOutFor_L2 (iI (f : Int)) M K1 K2 (q + 1 + r) (iI (i : Int)) = (if b = true then K1 else K2) ∧ (b = true → ∃ a, a < 4 ^ n ∧ isE G n a = true ∧ co a = (f : Int)) ∧ (b = false → ∀ j, i ≤ j → j < (B (f % 4)).length → co ((B (f % 4)).getD j 0) = (f : Int) → ¬ isE G n ((B (f % 4)).getD j 0) = true)
  | 0, i, q, hr => by
    have hs := h.sz
    have hdd : f % 4 < 4 := by omega
    have hlen := hV.len hdd
    refine ⟨false, ?_, fun z => (by cases z), fun _ j j1 j2 => by omega⟩
    show (ldi (M.1 50) 4 (iI (f : Int) &&& (3 : Int32)) fun v1 => if v1 ≤ iI (i : Int) then K2 else _) = _
    rw [and3_I, ldi_N (by omega) (by omega), (hK _ hdd).1, if_le (by omega) (by omega) (by omega) (by omega), if_pos (by omega)]
    rfl
  | r + 1, i, q, hr => by
    have hs := h.sz
    have hdd : f % 4 < 4 := by omega
    have hlen := hV.len hdd
    have hv := ((hV.1 f (by omega) (by omega)).2 _ (getD_mem (show i < (B (f % 4)).length by omega))).1
    have hv1 := hv.1
    have ih := hasOut_loop h hc hK hV h1 hl hh hf (K1 := K1) (K2 := K2) r (i + 1) q (by omega)
    show ∃ b : Bool, (ldi (M.1 50) 4 (iI (f : Int) &&& (3 : Int32)) fun v1 => if v1 ≤ iI (i : Int) then K2 else obind (F_X0_inBucket (iI (f : Int)) (iI (i : Int)) M) fun v5 => if v5 = (-1 : Int32) then bnd (iI (i : Int) + (1 : Int32)) fun v9 => F_X0_hasOutFor_L2 (iI (f : Int)) M K1 K2 (q + 1 + r) v9 else if (F_X0_isOutIn v5 M) = 0 then bnd (iI (i : Int) + (1 : Int32)) fun v13 => F_X0_hasOutFor_L2 (iI (f : Int)) M K1 K2 (q + 1 + r) v13 else K1) = _ ∧ _
    rw [and3_I, ldi_N (by omega) (by omega), (hK _ hdd).1, if_le (by omega) (by omega) (by omega) (by omega), if_neg (by omega), inBucket_I h hc hK hV h1 hl hh hf (by omega), ob_s]
    by_cases e : co ((B (f % 4)).getD i 0) = (f : Int)
    · rw [if_pos e, iL_m1, if_eq (by omega) (by omega) (by omega) (by omega), if_neg (by omega), isOutIn_I h hv.1, i10_eq0]
      by_cases e2 : isE G n ((B (f % 4)).getD i 0) = true
      · rw [if_pos e2]
        exact ⟨true, rfl, fun _ => ⟨_, hv.1, e2, e⟩, fun z => by cases z⟩
      · rw [if_neg e2, bnd_v, iL_1, iI_add]
        obtain ⟨b, k1, k2, k3⟩ := ih
        refine ⟨b, k1, k2, fun z j j1 j2 j3 => ?_⟩
        by_cases ej : j = i
        · subst ej; exact e2
        · exact k3 z j (by omega) j2 j3
    · rw [if_neg e, if_pos (show iI (-1) = (-1 : Int32) from rfl), bnd_v, iL_1, iI_add]
      obtain ⟨b, k1, k2, k3⟩ := ih
      refine ⟨b, k1, k2, fun z j j1 j2 j3 => ?_⟩
      by_cases ej : j = i
      · subst ej; exact absurd j3 e
      · exact k3 z j (by omega) j2 j3
/-- in a stage, behind i entries of its bucket -/
def EB (w : Nat) (L G : Nat → Nat) (n s f : Nat) (Bf : List Nat) (coS : Nat → Int) (i : Nat) (co : Nat → Int) (B : Nat → List Nat) : Prop :=
  W1 w L G n s co ∧ BD (4 ^ n) co ∧ BV w L G n f co B ∧ B (f % 4) = Bf ∧ Kp f coS co ∧ Less coS co ∧ ∀ j, j < i → co (Bf.getD j 0) = (f : Int) → ∀ v g, Edg w L G n (Bf.getD j 0) v g → 0 ≤ co v ∧ co v ≤ (f : Int) + g
theorem entries_loop {f : Nat} {Bf : List Nat} {coS : Nat → Int} (hf : f ≤ 100000) {ρ : Type} {K : Wd → Option ρ} : ∀ (r i q : Nat) (M : Wd) (co : Nat → Int) (B : Nat → List Nat), i + r = Bf.length → EL w n L G M → CE n M co → BK M B → EB w L G n s f Bf coS i co B →
    ∃ M' co' B', F_X0_emptyBucket_L11 (iI (f : Int)) (iI (Bf.length : Int)) K (q + 1 + r) (iI (i : Int)) M = K M' ∧ CE n M' co' ∧ BK M' B' ∧ EB w L G n s f Bf coS Bf.length co' B' ∧ frK M M'
  | 0, i, q, M, co, B, hr, h, hc, hK, hE => by
    have hs := h.sz
    have hlen := hE.2.2.1.len (show f % 4 < 4 by omega)
    rw [hE.2.2.2.1] at hlen
    refine ⟨M, co, B, ?_, hc, hK, by rw [← hr]; exact hE, frK.rf M⟩
    show (if iI (Bf.length : Int) ≤ iI (i : Int) then K M else _) = K M
    rw [if_le (by omega) (by omega) (by omega) (by omega), if_pos (by omega)]
  | r + 1, i, q, M, co, B, hr, h, hc, hK, hE => by
    have hs := h.sz
    have hn := h.1.1
    obtain ⟨e1, e2, e3, e4, e5, e6, e7⟩ := hE
    have hlen := e3.len (show f % 4 < 4 by omega)
    rw [e4] at hlen
    have hi : i < (B (f % 4)).length := by rw [e4]; omega
    have hib := inBucket_I h hc hK e3 e1.2.1 e1.1 (e2.hi hs) hf hi
    rw [e4] at hib
    obtain ⟨p, hp⟩ := fuelS n (by omega)
    show ∃ M' co' B', (if iI (Bf.length : Int) ≤ iI (i : Int) then K M else obind (F_X0_inBucket (iI (f : Int)) (iI (i : Int)) M) fun v5 => F_X0_emptyBucket_L27 (iI (f : Int)) (iI (Bf.length : Int)) (iI (i : Int)) v5 (fun M29 => bnd (iI (i : Int) + (1 : Int32)) fun v30 => F_X0_emptyBucket_L11 (iI (f : Int)) (iI (Bf.length : Int)) K (q + 1 + r) v30 M29) fuelN (0 : Int32) M) = K M' ∧ _
    rw [if_le (by omega) (by omega) (by omega) (by omega), if_neg (by omega), hib, ob_s, hp]
    by_cases e : co (Bf.getD i 0) = (f : Int)
    · rw [if_pos e, iL_0, show iI 0 = iI ((0 : Nat) : Int) from rfl]
      obtain ⟨M1, co1, B1, f1, f2, f3, f4, f5, f6, f7, f8⟩ := bcars_loop (s := s) (co0 := co) (u := Bf.getD i 0) (f := f) (i := i) (cnt := Bf.length) (e1.2.1 _ (by omega)) e (K := fun M29 => bnd (iI (i : Int) + (1 : Int32)) fun v30 => F_X0_emptyBucket_L11 (iI (f : Int)) (iI (Bf.length : Int)) K (q + 1 + r) v30 M29) n 0 p M co B (by omega) h hc hK e3 (Rx.begin e1 e2 (fun c f' hcc => by omega)) (Kp.rf f co)
      rw [f1, bnd_v, iL_1, iI_add]
      obtain ⟨M2, co2, B2, k1, k2, k3, k4, k5⟩ := entries_loop (Bf := Bf) (coS := coS) hf (K := K) r (i + 1) q M1 co1 B1 (by omega) (h.frk f8) f2 f3 ⟨f5.1, f5.2.1, f4, by rw [f7, e4], e5.tr f6, e6.tr f5.2.2.1, fun j hj hjf v g he => by
        have hjf2 : co (Bf.getD j 0) = (f : Int) := by rw [← f6 _ (Or.inr (by omega))]; exact hjf
        by_cases ej : j = i
        · subst ej
          have := f5.all (fun c f hc => hc) he
          omega
        · have q1 := e7 j (by omega) hjf2 v g he
          have q2 := f5.2.2.1 v q1.1
          omega⟩
      exact ⟨M2, co2, B2, k1, k2, k3, k4, f8.tr k5⟩
    · rw [if_neg e, show p + 1 + n = (p + n) + 1 by omega]
      show ∃ M' co' B', (if (M.1 44 6) ≤ (0 : Int32) then (bnd (iI (i : Int) + (1 : Int32)) fun v30 => F_X0_emptyBucket_L11 (iI (f : Int)) (iI (Bf.length : Int)) K (q + 1 + r) v30 M) else if (6 : Int32) ≤ (0 : Int32) then _ else if iI (-1) = (-1 : Int32) then (bnd (iI (i : Int) + (1 : Int32)) fun v30 => F_X0_emptyBucket_L11 (iI (f : Int)) (iI (Bf.length : Int)) K (q + 1 + r) v30 M) else _) = K M' ∧ _
      rw [if_neg (show ¬ (6 : Int32) ≤ 0 by decide), if_pos (show iI (-1) = (-1 : Int32) from rfl), ite_self, bnd_v, iL_1, iI_add]
      obtain ⟨M2, co2, B2, k1, k2, k3, k4, k5⟩ := entries_loop (Bf := Bf) (coS := coS) hf (K := K) r (i + 1) q M co B (by omega) h hc hK ⟨e1, e2, e3, e4, e5, e6, fun j hj hjf v g he => by
        by_cases ej : j = i
        · subst ej; exact absurd hjf e
        · exact e7 j (by omega) hjf v g he⟩
      exact ⟨M2, co2, B2, k1, k2, k3, k4, k5⟩
/-- between stages -/
def SL (w : Nat) (L G : Nat → Nat) (n s f : Nat) (co : Nat → Int) (B : Nat → List Nat) : Prop :=
  W1 w L G n s co ∧ BD (4 ^ n) co ∧ BV w L G n f co B ∧ (∀ u v g, Edg w L G n u v g → 0 ≤ co u → co u < (f : Int) → 0 ≤ co v ∧ co v ≤ co u + g) ∧ ∀ a, a < 4 ^ n → isE G n a = true → ¬ (0 ≤ co a ∧ co a < (f : Int))
theorem stage_I {M : Wd} (h : EL w n L G M) {co : Nat → Int} {B : Nat → List Nat} (hc : CE n M co) (hK : BK M B) {f : Nat} (hf : f ≤ 100000) (hS : SL w L G n s f co B) (hno : ∀ a, a < 4 ^ n → isE G n a = true → co a ≠ (f : Int)) :
    ∃ M' co' B', F_X0_emptyBucket (iI (f : Int)) M = some M' ∧ CE n M' co' ∧ BK M' B' ∧ SL w L G n s (f + 1) co' B' ∧ frK M M' := by
  have hs := h.sz
  have hdd : f % 4 < 4 := by omega
  obtain ⟨s1, s2, s3, s4, s5⟩ := hS
  have hlen := s3.len hdd
  unfold F_X0_emptyBucket
  obtain ⟨p, hp⟩ := fuelS (B (f % 4)).length (by omega)
  rw [and3_I, ldi_N (by omega) (by omega), (hK _ hdd).1, hp, iL_0, show iI 0 = iI ((0 : Nat) : Int) from rfl]
  obtain ⟨M1, co1, B1, k1, k2, k3, k4, k5⟩ := entries_loop (s := s) (Bf := B (f % 4)) (coS := co) hf (K := fun M32 => inb 4 (iI ((f % 4 : Nat) : Int)) <| some (upI M32 50 (iI ((f % 4 : Nat) : Int)).toNatClampNeg (iI ((0 : Nat) : Int)))) (B (f % 4)).length 0 p M co B (by omega) h hc hK ⟨s1, s2, s3, rfl, Kp.rf f co, Less.rf co, fun j hj => by omega⟩
  rw [k1, inb_N (by omega) (by omega), iI_clN (by omega)]
  obtain ⟨e1, e2, e3, e4, e5, e6, e7⟩ := k4
  refine ⟨_, co1, fun j => if j = f % 4 then [] else B1 j, rfl, k2.fr (fun a _ => by rw [upI_row_ne (by decide)]), fun j hj => ?_, ⟨e1, e2, ⟨fun c c1 c2 => ?_, fun v hv => ?_⟩, fun u v g he hu0 hu1 => ?_, fun a ha hae ha2 => ?_⟩, k5.tr ⟨fun c h1 h2 h3 h4 h5 => upI_row_ne h4, fun j hj => by rw [upI_row_ne (by decide)], rfl⟩⟩
  · by_cases ej : j = f % 4
    · subst ej
      simp only [if_true]
      refine ⟨?_, fun i hi => by cases hi⟩
      rw [upI_row]; exact if_pos rfl
    · simp only [if_neg ej]
      refine ⟨?_, fun i hi => ?_⟩
      · rw [upI_row, ← (k3 j hj).1]; exact if_neg ej
      · rw [upI_row_ne (by decide)]; exact (k3 j hj).2 i hi
  · by_cases ec : c % 4 = f % 4
    · simp only [if_pos ec]
      exact ⟨List.nodup_nil, fun v hv => nomatch hv⟩
    · simp only [if_neg ec]
      exact e3.1 c (by omega) (by omega)
  · have q := e3.2 v (by omega)
    refine ⟨by omega, ?_⟩
    have ec : ¬ (co1 v).toNat % 4 = f % 4 := by omega
    show v ∈ (if (co1 v).toNat % 4 = f % 4 then [] else B1 ((co1 v).toNat % 4))
    rw [if_neg ec]; exact q.2
  · have ek := e5 u (Or.inr (by omega))
    by_cases eu : co1 u = (f : Int)
    · have hm := (s3.2 u (by omega)).2
      rw [show (co u).toNat % 4 = f % 4 by rw [← ek, eu, Int.toNat_natCast]] at hm
      obtain ⟨j, hj, ej⟩ := mem_getD hm
      have := e7 j hj (by rw [ej]; exact eu) v g (by rw [ej]; exact he)
      omega
    · have q1 := s4 u v g he (by omega) (by omega)
      have q2 := e6 v q1.1
      omega
  · have ek := e5 a (Or.inr (by omega))
    have q1 := s5 a ha hae
    have q2 := hno a ha hae
    omega
/-- the answer's meaning -/
def FU (w : Nat) (L G : Nat → Nat) (n s : Nat) (y : Int) : Prop := ∀ D, IsD w L G n s D → LE w L G n D y
theorem FU_none (hLG : LGok L G n) {f : Nat} {co : Nat → Int} {B : Nat → List Nat} (hS : SL w L G n s f co B) (hlt : ∀ a, co a < (f : Int)) : FU w L G n s (-1) := fun D hD => by
  obtain ⟨s1, s2, s3, s4, s5⟩ := hS
  have hco : co = D := IsD.eq hLG ⟨s1, fun u v g he hu => s4 u v g he hu (hlt u)⟩ hD
  rw [← hco]
  left
  refine ⟨rfl, fun a ha hae => ?_⟩
  have q1 := s5 a ha hae
  have q2 := hlt a
  have q3 := s1.1 a
  omega
theorem FU_some (hLG : LGok L G n) {f : Nat} {co : Nat → Int} {B : Nat → List Nat} (hS : SL w L G n s f co B) {a : Nat} (ha : a < 4 ^ n) (hae : isE G n a = true) (haf : co a = (f : Int)) : FU w L G n s (f : Int) := fun D hD => by
  obtain ⟨s1, s2, s3, s4, s5⟩ := hS
  have low : ∀ b, b < 4 ^ n → isE G n b = true → 0 ≤ D b → (f : Int) ≤ D b := fun b hb hbe h0 => Classical.byContradiction fun z => by
    have q := W_leP hLG hD.1 s1.2.2.1 (f := (f : Int)) s4 (D b).toNat (D b).toNat (Nat.le_refl _) (by omega) b (by omega)
    have := s5 b hb hbe
    omega
  have q1 := W_le' hLG s1 hD.1.2.2.1 hD.2 (a := a) (by omega)
  have q2 := low a ha hae q1.1
  right
  exact ⟨by omega, ⟨a, ha, hae, by omega⟩, low⟩
theorem stages_loop {ρ : Type} {K1 : Int32 → Wd → Option ρ} {K2 : Wd → Option ρ} : ∀ (r f q : Nat) (M : Wd) (co : Nat → Int) (B : Nat → List Nat), f + r = 12289 → EL w n L G M → CE n M co → BK M B → SL w L G n s f co B →
    ∃ M' y, F_X0_fuelByBuckets_L35 K1 K2 (q + 1 + r) (iI (f : Int)) M = (if y = -1 then K2 M' else K1 (iI y) M') ∧ FU w L G n s y ∧ frK M M'
  | 0, f, q, M, co, B, hr, h, hc, hK, hS => by
    have hs := h.sz
    refine ⟨M, -1, ?_, FU_none h.1.2.2 hS (fun a => by have := hS.2.1.hi hs a; omega), frK.rf M⟩
    rw [if_pos rfl]
    show (if (12288 : Int32) < iI (f : Int) then K2 M else _) = K2 M
    rw [show (12288 : Int32) = iI 12288 from rfl, if_lt (by omega) (by omega) (by omega) (by omega), if_pos (by omega)]
  | r + 1, f, q, M, co, B, hr, h, hc, hK, hS => by
    have hs := h.sz
    have hV := hS.2.2.1
    have l0 := hV.len (show 0 < 4 by decide)
    have l1 := hV.len (show 1 < 4 by decide)
    have l2 := hV.len (show 2 < 4 by decide)
    have l3 := hV.len (show 3 < 4 by decide)
    show ∃ M' y, (if (12288 : Int32) < iI (f : Int) then K2 M else if (F_X0_isAnyFilled M) = 0 then K2 M else obind (F_X0_hasOutFor (iI (f : Int)) M) fun v13 => if v13 = 0 then obind (F_X0_emptyBucket (iI (f : Int)) M) fun M17 => bnd (iI (f : Int) + (1 : Int32)) fun v19 => F_X0_fuelByBuckets_L35 K1 K2 (q + 1 + r) v19 M17 else K1 (iI (f : Int)) M) = _ ∧ _
    rw [show (12288 : Int32) = iI 12288 from rfl, if_lt (by omega) (by omega) (by omega) (by omega), if_neg (by omega)]
    have hany : F_X0_isAnyFilled M = if ((B 0).length : Int) + (B 1).length + (B 2).length + (B 3).length ≤ 0 then iI 0 else iI 1 := by
      unfold F_X0_isAnyFilled
      rw [(hK 0 (by decide)).1, (hK 1 (by decide)).1, (hK 2 (by decide)).1, (hK 3 (by decide)).1, iI_add, iI_add, iI_add, iL_0, if_le (by omega) (by omega) (by omega) (by omega)]
      rfl
    rw [hany]
    by_cases e : ((B 0).length : Int) + (B 1).length + (B 2).length + (B 3).length ≤ 0
    · rw [if_pos e, if_pos (show iI 0 = (0 : Int32) from rfl)]
      refine ⟨M, -1, (if_pos rfl).symm, FU_none h.1.2.2 hS (fun a => Classical.byContradiction fun z => ?_), frK.rf M⟩
      have hm := (hV.2 a (by omega)).2
      have hpos := List.length_pos_of_mem hm
      have hj : (co a).toNat % 4 < 4 := by omega
      generalize (co a).toNat % 4 = j at hm hpos hj
      match j, hj with
      | 0, _ => omega
      | 1, _ => omega
      | 2, _ => omega
      | 3, _ => omega
    · rw [if_neg e, if_neg (show ¬ iI 1 = (0 : Int32) by decide)]
      obtain ⟨p, hp⟩ := fuelS (B (f % 4)).length (by have := hV.len (show f % 4 < 4 by omega); omega)
      obtain ⟨b, b1, b2, b3⟩ := hasOut_loop h hc hK hV hS.1.2.1 hS.1.1 (hS.2.1.hi hs) (show f ≤ 100000 by omega) (K1 := some (1 : Int32)) (K2 := some (0 : Int32)) (B (f % 4)).length 0 p (by omega)
      have hho : F_X0_hasOutFor (iI (f : Int)) M = if b = true then some (1 : Int32) else some (0 : Int32) := by
        unfold F_X0_hasOutFor
        rw [hp]; exact b1
      rw [hho]
      cases b with
      | true =>
        obtain ⟨a, a1, a2, a3⟩ := b2 rfl
        refine ⟨M, (f : Int), ?_, FU_some h.1.2.2 hS a1 a2 a3, frK.rf M⟩
        rw [if_pos rfl, ob_s, if_neg (by decide), if_neg (by omega)]
      | false =>
        rw [if_neg (by decide), ob_s, if_pos rfl]
        obtain ⟨M1, co1, B1, f1, f2, f3, f4, f5⟩ := stage_I h hc hK (show f ≤ 100000 by omega) hS (fun a ha hae z => by
          have hm := (hV.2 a (by omega)).2
          rw [z, Int.toNat_natCast] at hm
          obtain ⟨j, hj, ej⟩ := mem_getD hm
          exact b3 rfl j (by omega) hj (by rw [ej]; exact z) (by rw [ej]; exact hae))
        rw [f1, ob_s, bnd_v, iL_1, iI_add]
        obtain ⟨M2, y, k1, k2, k3⟩ := stages_loop (K1 := K1) (K2 := K2) r (f + 1) q M1 co1 B1 (by omega) (h.frk f5) f2 f3 f4
        exact ⟨M2, y, k1, k2, f5.tr k3⟩
theorem fill0_loop {ρ : Type} {K : Wd → Option ρ} : ∀ (r i q : Nat) (M : Wd), i + r = 4 → (∀ j, j < i → M.1 50 j = iI 0) →
    ∃ M', F_X0_fuelByBuckets_L6 K (q + 1 + r) (iI (i : Int)) M = K M' ∧ (∀ j, j < 4 → M'.1 50 j = iI 0) ∧ M'.1 47 = M.1 47 ∧ frK M M'
  | 0, i, q, M, hr, hj => by
    refine ⟨M, ?_, fun j h4 => hj j (by omega), rfl, frK.rf M⟩
    show (if (4 : Int32) ≤ iI (i : Int) then K M else _) = K M
    rw [show (4 : Int32) = iI 4 from rfl, if_le (by omega) (by omega) (by omega) (by omega), if_pos (by omega)]
  | r + 1, i, q, M, hr, hj => by
    show ∃ M', (if (4 : Int32) ≤ iI (i : Int) then K M else inb 4 (iI (i : Int)) <| bnd (iI (i : Int) + (1 : Int32)) fun v5 => F_X0_fuelByBuckets_L6 K (q + 1 + r) v5 (upI M 50 (iI (i : Int)).toNatClampNeg (0 : Int32))) = K M' ∧ _
    rw [show (4 : Int32) = iI 4 from rfl, if_le (by omega) (by omega) (by omega) (by omega), if_neg (by omega), inb_N (by omega) (by omega), bnd_v, iI_clN (by omega), iL_1, iI_add]
    obtain ⟨M1, k1, k2, k3, k4⟩ := fill0_loop (K := K) r (i + 1) q (upI M 50 i (0 : Int32)) (by omega) (fun j h4 => by
      rw [upI_row]
      show upd (M.1 50) i (0 : Int32) j = iI 0
      by_cases e : j = i
      · exact if_pos e
      · rw [← hj j (by omega)]; exact if_neg e)
    refine ⟨M1, k1, k2, by rw [k3, upI_row_ne (by decide)], (show frK M (upI M 50 i (0 : Int32)) from ⟨fun c h1 h2 h3 h4 h5 => upI_row_ne h4, fun j hj => by rw [upI_row_ne (by decide)], rfl⟩).tr k4⟩
theorem buckets_I {M : Wd} (h : EL w n L G M) (hst : M.1 44 8 = iI (s : Int)) (hv : VV w L G n s) :
    ∃ M' y, F_X0_fuelByBuckets M = some (iI y, M') ∧ FU w L G n s y ∧ frK M M' := by
  have hs := h.sz
  unfold F_X0_fuelByBuckets
  obtain ⟨M1, f1, f2, f3⟩ := forget_I h
  rw [f1, ob_s]
  obtain ⟨M2, g1, g2, g3, g4⟩ := fill0_loop (K := fun M7 => obind (F_X0_cheapen (M7.1 44 8) (0 : Int32) M7) fun M8 => F_X0_fuelByBuckets_L35 (fun v21 M22 => some (v21, M22)) (fun M23 => some ((-1 : Int32), M23)) fuelN (0 : Int32) M8) 4 0 999999999995 M1 (by omega) (fun j hj => by omega)
  have h2 := (h.frk f3.K).frk g4
  have hfr := f3.K.tr g4
  have hc : CE n M2 (fun _ => -1) := fun a ha => by rw [g3]; exact f2.1 a ha
  obtain ⟨M3, B3, k1, k2, k3, k4, k5, k6⟩ := cheapen_I h2 (B := fun _ => []) (f := 0) (d := 0) hc (fun j hj => ⟨g2 j hj, fun i hi => by cases hi⟩) ⟨fun c _ _ => ⟨List.nodup_nil, fun v hv => nomatch hv⟩, fun v hv => by
    have hv' : ((0 : Nat) : Int) ≤ -1 := hv
    omega⟩ (fun a => Int.le_refl _) (fun a => by decide) (Nat.le_refl _) (by omega) (by omega) hv
  have ek : rlx (fun _ => -1) s ((0 : Nat) : Int) = co0 s := rlx_y (Or.inl rfl)
  rw [ek] at k2 k4
  obtain ⟨p, hp⟩ := fuelS 12289 (by decide)
  obtain ⟨M4, y, l1, l2, l3⟩ := stages_loop (s := s) (K1 := fun v21 M22 => some (v21, M22)) (K2 := fun M23 => some (iI (-1), M23)) 12289 0 p M3 (co0 s) B3 (by omega) (h2.frk k6) k2 k3 ⟨W1_0 hv, BD_0 hv.1, k4, fun u v g he h0 h1 => by omega, fun a _ _ z => by omega⟩
  refine ⟨M4, y, ?_, l2, (hfr.tr k6).tr l3⟩
  refine Eq.trans g1 ?_
  show obind (F_X0_cheapen (M2.1 44 8) (0 : Int32) M2) (fun M8 => F_X0_fuelByBuckets_L35 (fun v21 M22 => some (v21, M22)) (fun M23 => some ((-1 : Int32), M23)) fuelN (0 : Int32) M8) = _
  rw [hfr.2.1 8 (by decide), hst]
  refine Eq.trans (congrArg (fun z => obind z _) k1) ?_
  show F_X0_fuelByBuckets_L35 (fun v21 M22 => some (v21, M22)) (fun M23 => some ((-1 : Int32), M23)) fuelN (0 : Int32) M3 = _
  rw [hp]
  refine Eq.trans l1 ?_
  by_cases e : y = -1
  · rw [if_pos e, e]
  · rw [if_neg e]
end WK
