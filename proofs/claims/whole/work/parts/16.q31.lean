/-! ===== doing a part ===== -/
section DP
variable {tl : Nat} {tc : Nat → Nat}
/-- the class's text -/
def Tk (tl : Nat) (tc : Nat → Nat) (M : Wd) : Prop := tl ≤ 60 ∧ (∀ i, i < tl → 33 ≤ tc i ∧ tc i ≤ 126) ∧ M.1 51 1 = iI (tl : Int) ∧ ∀ i, i < tl → M.1 52 i = iI (tc i : Int)
theorem Tk.fr {M N : Wd} (h : Tk tl tc M) (h1 : N.1 51 = M.1 51) (h2 : N.1 52 = M.1 52) : Tk tl tc N := ⟨h.1, h.2.1, by rw [h1]; exact h.2.2.1, fun i hi => by rw [h2]; exact h.2.2.2 i hi⟩
theorem code_y {M : Wd} (h : Tk tl tc M) {i : Nat} (hi : i < tl) : F_X2_codeAt (iI (i : Int)) M = some (iI (tc i : Int)) := by
  have h60 := h.1
  rw [codeAt_I h.2.2.1 h.2.2.2 h.1 (by omega), if_pos hi]
theorem digitAt_y {M : Wd} (h : Tk tl tc M) {i : Nat} (hi : i < tl) : F_X2_digitAt (iI (i : Int)) M = some (iI ((tc i : Int) - 48)) := by
  unfold F_X2_digitAt
  rw [code_y h hi, ob_s, show (48 : Int32) = iI 48 from rfl, iI_sub]
theorem signAt_y {M : Wd} (h : Tk tl tc M) {i : Nat} (hi : i < tl) : F_X2_signAt (iI (i : Int)) M = some (iI (if tc i = 45 then -1 else 1)) := by
  have hc := h.2.1 i hi
  unfold F_X2_signAt
  rw [code_y h hi, ob_s, show (45 : Int32) = iI 45 from rfl, if_eq (by omega) (by omega) (by omega) (by omega)]
  by_cases e : tc i = 45
  · rw [if_pos (by omega), if_pos e]; rfl
  · rw [if_neg (by omega), if_neg e]; rfl
theorem among_I {c : Nat} (hc : c < 200) : F_X2_isAmong (iI (c : Int)) (48 : Int32) (57 : Int32) = if 48 ≤ c ∧ c ≤ 57 then iI 1 else iI 0 := by
  unfold F_X2_isAmong
  rw [show (48 : Int32) = iI 48 from rfl, show (57 : Int32) = iI 57 from rfl, if_lt (by omega) (by omega) (by omega) (by omega), if_lt (by omega) (by omega) (by omega) (by omega)]
  by_cases e : 48 ≤ c ∧ c ≤ 57
  · rw [if_neg (by omega), if_neg (by omega), if_pos e]; rfl
  · rw [if_neg e]
    by_cases e2 : c < 48
    · rw [if_pos (by omega)]; rfl
    · rw [if_neg (by omega), if_pos (by omega)]; rfl
theorem nextPart_loop {M : Wd} (h : Tk tl tc M) {p' : Nat} (hp : p' ≤ tl) (h59 : p' < tl → tc p' = 59) {ρ : Type} {K : Int32 → Option ρ} : ∀ (r q p : Nat), p + r = p' → (∀ i, p ≤ i → i < p' → tc i ≠ 59) → F_X2_nextPart_L2 M K (q + 1 + r) (iI (p : Int)) = K (iI (p' : Int))
  | 0, q, p, hr, hn => by
    have h60 := h.1
    have e : p = p' := by omega
    subst e
    show (if (M.1 51 1) ≤ iI (p : Int) then K (iI (p : Int)) else obind (F_X2_codeAt (iI (p : Int)) M) fun v2 => if v2 = (59 : Int32) then K (iI (p : Int)) else _) = _
    rw [h.2.2.1, if_le (by omega) (by omega) (by omega) (by omega)]
    by_cases e2 : p < tl
    · rw [if_neg (by omega), code_y h e2, ob_s, h59 e2]
      exact if_pos rfl
    · rw [if_pos (by omega)]
  | r + 1, q, p, hr, hn => by
    have h60 := h.1
    have hlt : p < tl := by omega
    have hc := h.2.1 p hlt
    have hne := hn p (Nat.le_refl p) (by omega)
    show (if (M.1 51 1) ≤ iI (p : Int) then K (iI (p : Int)) else obind (F_X2_codeAt (iI (p : Int)) M) fun v2 => if v2 = (59 : Int32) then K (iI (p : Int)) else bnd (iI (p : Int) + (1 : Int32)) fun v6 => F_X2_nextPart_L2 M K (q + 1 + r) v6) = _
    rw [h.2.2.1, if_le (by omega) (by omega) (by omega) (by omega), if_neg (by omega), code_y h hlt, ob_s, show (59 : Int32) = iI 59 from rfl, if_eq (by omega) (by omega) (by omega) (by omega), if_neg (by omega), s1_I, bnd_v]
    exact nextPart_loop h hp h59 r q (p + 1) (by omega) (fun i h1 h2 => hn i (by omega) h2)
theorem nextPart_I {M : Wd} (h : Tk tl tc M) {p p' : Nat} (hpp : p ≤ p') (hp : p' ≤ tl) (h59 : p' < tl → tc p' = 59) (hn : ∀ i, p ≤ i → i < p' → tc i ≠ 59) : F_X2_nextPart (iI (p : Int)) M = some (iI ((p' + 1 : Nat) : Int)) := by
  have h60 := h.1
  unfold F_X2_nextPart
  obtain ⟨f, hf⟩ := fuelS (p' - p) (by omega)
  rw [hf, nextPart_loop h hp h59 (K := fun v8 => some (v8 + (1 : Int32))) (p' - p) f p (by omega) hn, s1_I]
def frW (M N : Wd) : Prop := (∀ c, c < 53 ∨ c = 54 ∨ c = 56 ∨ c = 57 ∨ 61 < c → N.1 c = M.1 c) ∧ (∀ j, j ≠ 9 → j ≠ 10 → ¬ (14 ≤ j ∧ j ≤ 20) → N.1 53 j = M.1 53 j) ∧ N.2 = M.2
theorem frW.rf (M : Wd) : frW M M := ⟨fun _ _ => rfl, fun _ _ _ _ => rfl, rfl⟩
theorem frW.tr {M N O : Wd} (h : frW M N) (h2 : frW N O) : frW M O := ⟨fun c a => by rw [h2.1 c a, h.1 c a], fun j a b c => by rw [h2.2.1 j a b c, h.2.1 j a b c], by rw [h2.2.2, h.2.2]⟩
theorem frV.W {M N : Wd} (h : frV M N) : frW M N := ⟨h.1, fun j a b c => h.2.1 j a b (by omega), h.2.2⟩
theorem frR.W {M N : Wd} (h : frR M N) : frW M N := ⟨fun c hc => h.1 c (by omega), fun j a b c => h.2.1 j (by omega), h.2.2⟩
theorem frW.up {M : Wd} {j : Nat} {v : Int32} (h : 14 ≤ j ∧ j ≤ 20) : frW M (upI M 53 j v) := ⟨fun c hc => upI_row_ne (by omega), fun i _ _ hi => by rw [upI_at, if_neg (by omega)], rfl⟩
theorem frW.mo {M N : Wd} (h : frW M N) : frMo M N := ⟨fun c hc => h.1 c (by omega), by rw [h.2.2], by rw [h.2.2]⟩
theorem Tx.frw {M N : Wd} (h : Tx tl tc M) (hf : frW M N) : Tx tl tc N := ⟨h.1, h.2.1, by rw [hf.2.1 2 (by decide) (by decide) (by decide)]; exact h.2.2.1, fun i hi => by rw [hf.1 54 (by omega)]; exact h.2.2.2 i hi⟩
/-- what both do of a part -/
def DoA (tl : Nat) (tc : Nat → Nat) (p p' : Nat) (s : Pst) (b : Bool) (s' : Pst) : Prop :=
  pW s' ∧ (∀ M, pC 1 s M → Tk tl tc M → ∃ M', F_X3_tryPart (iI (p : Int)) M = some (if b = true then (1 : Int32) else (0 : Int32), M') ∧ pC 1 s' M' ∧ frZ M M') ∧
  ∀ N, pM 55 0 s N → VL tl tc N p p' → ∃ N', F_X4_does (iI (tc p : Int)) N = some (if b = true then (1 : Int32) else (0 : Int32), N') ∧ pM 55 0 s' N' ∧ frV N N'
theorem tryPart_u {M : Wd} (h : Tk tl tc M) {p : Nat} (hp : p < tl) : F_X3_tryPart (iI (p : Int)) M =
    if tc p = 98 then obind2 (F_X3_tryTakingBack M) fun v4 M5 => some (v4, M5) else if tc p = 100 then obind2 (F_X3_slidesToDriveOut M) fun v8 M9 => obind2 (F_X3_makePlan v8 M9) fun v12 M13 => some (v12, M13) else if tc p = 104 then obind (F_X2_digitAt (iI ((p + 1 : Nat) : Int)) M) fun v16 => obind (F_X2_digitAt (iI ((p + 3 : Nat) : Int)) M) fun v19 => obind (F_X2_digitAt (iI ((p + 5 : Nat) : Int)) M) fun v22 => obind2 (F_X3_tryEntering v16 v19 v22 M) fun v25 M26 => some (v25, M26) else if tc p = 118 then obind (F_X2_digitAt (iI ((p + 1 : Nat) : Int)) M) fun v29 => obind (F_X2_digitAt (iI ((p + 3 : Nat) : Int)) M) fun v32 => obind (F_X2_digitAt (iI ((p + 5 : Nat) : Int)) M) fun v35 => obind2 (F_X3_tryEntering ((5 : Int32) + v29) v32 v35 M) fun v38 M39 => some (v38, M39) else if tc p = 119 then obind (F_X2_cellAt (iI ((p + 1 : Nat) : Int)) M) fun v42 => obind2 (F_X3_tryWall v42 M) fun v45 M46 => some (v45, M46) else obind (F_X2_digitAt (iI (p : Int)) M) fun v49 => obind (F_X2_signAt (iI ((p + 1 : Nat) : Int)) M) fun v52 => obind (F_X2_digitAt (iI ((p + 2 : Nat) : Int)) M) fun v55 => obind2 (F_X3_trySliding v49 (v52 * v55) M) fun v58 M59 => some (v58, M59) := by
  have hc := h.2.1 p hp
  have eqn : ∀ x : Nat, x < 1000 → (iI (tc p : Int) = iI (x : Int)) = (tc p = x) := fun x hx => by
    rw [iI_eq (by omega) (by omega) (by omega) (by omega)]
    exact propext ⟨fun q => by omega, fun q => by omega⟩
  unfold F_X3_tryPart
  rw [code_y h hp, ob_s, show (98 : Int32) = iI ((98 : Nat) : Int) from rfl, show (100 : Int32) = iI ((100 : Nat) : Int) from rfl, show (104 : Int32) = iI ((104 : Nat) : Int) from rfl, show (118 : Int32) = iI ((118 : Nat) : Int) from rfl, show (119 : Int32) = iI ((119 : Nat) : Int) from rfl]
  simp only [eqn _ (show 98 < 1000 by decide), eqn _ (show 100 < 1000 by decide), eqn _ (show 104 < 1000 by decide), eqn _ (show 118 < 1000 by decide), eqn _ (show 119 < 1000 by decide)]
  rw [show iI (p : Int) + (1 : Int32) = iI ((p + 1 : Nat) : Int) from s1_I p, show (3 : Int32) = iI 3 from rfl, show iI (p : Int) + (5 : Int32) = iI ((p + 5 : Nat) : Int) by rw [show (5 : Int32) = iI 5 from rfl, iI_add]; rfl, show (2 : Int32) = iI 2 from rfl, iI_add, iI_add]
  rfl
theorem does_u {N : Wd} {c : Nat} (hc : c < 1000) : F_X4_does (iI (c : Int)) N =
    if c = 98 then (if (N.1 55 20) ≤ 0 then some ((0 : Int32), N) else obind2 (F_X4_backOn N) fun v2 M3 => if v2 < 0 then some ((0 : Int32), M3) else some ((1 : Int32), M3)) else if c = 100 then (obind2 (F_X4_canDrive N) fun v7 M8 => if v7 = 0 then some ((0 : Int32), M8) else obind2 (F_X4_driveOn M8) fun v12 M13 => if v12 < 0 then some ((0 : Int32), M13) else some ((1 : Int32), M13)) else if c = 104 ∨ c = 118 then (obind (F_X4_wrongCar (N.1 53 16) (N.1 53 17) (N.1 53 18) N) fun v17 => if v17 = 0 then obind2 (F_X4_addOn (N.1 53 16) (N.1 53 17) (N.1 53 18) N) fun v21 M22 => if v21 < 0 then some ((0 : Int32), M22) else some ((1 : Int32), M22) else some ((0 : Int32), N)) else if c = 119 then (obind (F_X4_canTurn (N.1 53 16) N) fun v35 => if v35 = 0 then some ((0 : Int32), N) else obind2 (F_X4_turnOn (N.1 53 16) N) fun v39 M40 => some ((1 : Int32), M40)) else (if (F_X4_isCar (N.1 53 16) N) = 0 then some ((0 : Int32), N) else obind (F_X4_canSlide (N.1 53 16) (N.1 53 17) N) fun v47 => if v47 = 0 then some ((0 : Int32), N) else if (60 : Int32) ≤ (N.1 55 20) then some ((0 : Int32), N) else obind2 (F_X4_slideOn (N.1 53 16) (N.1 53 17) N) fun v52 M53 => if v52 < 0 then some ((0 : Int32), M53) else some ((1 : Int32), M53)) := by
  have eqn : ∀ x : Nat, x < 1000 → (iI (c : Int) = iI (x : Int)) = (c = x) := fun x hx => by
    rw [iI_eq (by omega) (by omega) (by omega) (by omega)]
    exact propext ⟨fun q => by omega, fun q => by omega⟩
  unfold F_X4_does
  rw [show (98 : Int32) = iI ((98 : Nat) : Int) from rfl, show (100 : Int32) = iI ((100 : Nat) : Int) from rfl, show (104 : Int32) = iI ((104 : Nat) : Int) from rfl, show (118 : Int32) = iI ((118 : Nat) : Int) from rfl, show (119 : Int32) = iI ((119 : Nat) : Int) from rfl]
  simp only [eqn _ (show 98 < 1000 by decide), eqn _ (show 100 < 1000 by decide), eqn _ (show 104 < 1000 by decide), eqn _ (show 118 < 1000 by decide), eqn _ (show 119 < 1000 by decide)]
  by_cases e1 : c = 98
  · rw [if_pos e1, if_pos e1]
  · rw [if_neg e1, if_neg e1]
    by_cases e2 : c = 100
    · rw [if_pos e2, if_pos e2]
    · rw [if_neg e2, if_neg e2]
      by_cases e3 : c = 104
      · rw [if_pos e3, if_pos (Or.inl e3)]
      · rw [if_neg e3]
        by_cases e4 : c = 118
        · rw [if_pos e4, if_pos (Or.inr e4)]
        · rw [if_neg e4, if_neg (show ¬ (c = 104 ∨ c = 118) by omega)]
/-- a car that comes -/
theorem enterA {n w k : Nat} {z : Int} {L P G lc : Nat → Nat} {lb : Nat → Int} (hw : PkW n w k z L P G lc lb) {l p g : Nat} (hl : l < 10) (hp : p < 4) (hg : g < 10) :
    ∃ b s', pW s' ∧ (∀ M, PkC 1 n w k z L P G lc lb M → ∃ M', F_X3_tryEntering (iI (l : Int)) (iI (p : Int)) (iI (g : Int)) M = some (if b = true then (1 : Int32) else (0 : Int32), M') ∧ pC 1 s' M' ∧ frZ M M') ∧
      ∀ N, PkM 55 0 n w k z L P G lc lb N → ∃ N', (obind (F_X4_wrongCar (iI (l : Int)) (iI (p : Int)) (iI (g : Int)) N) fun v17 => if v17 = 0 then obind2 (F_X4_addOn (iI (l : Int)) (iI (p : Int)) (iI (g : Int)) N) fun v21 M22 => if v21 < 0 then some ((0 : Int32), M22) else some ((1 : Int32), M22) else some ((0 : Int32), N)) = some (if b = true then (1 : Int32) else (0 : Int32), N') ∧ pM 55 0 s' N' ∧ frV N N' := by
  have hn := hw.n6
  by_cases e : tE n w L G P l p g = 0
  · obtain ⟨e1, e2, e3, e4⟩ := tE_0 e
    rw [Int.toNat_natCast, Int.toNat_natCast, Int.toNat_natCast] at e4
    refine ⟨true, (n + 1, w, 0, z, updN L n l, updN P n p, updN G n g, lc, lb), wf_enter hw (by omega) hl (by omega) (by omega) (by omega) e4, fun M h => ?_, fun N h => ?_⟩
    · obtain ⟨M2, k1, k2, k3⟩ := enter_I (l := l) (p := p) (g := g) h (by omega)
      refine ⟨M2, ?_, k2, k3.Z⟩
      unfold F_X3_tryEntering
      rw [center_t h hw (by omega) (by omega) (by omega) (by omega) (by omega) (by omega), ob_s, e, if_pos (show iI ((0 : Nat) : Int) = (0 : Int32) from rfl), bnd_v, if_neg (by decide), k1, ob2_s, ob_s]
      rfl
    · obtain ⟨N2, k1, k2, k3⟩ := addOn_I (l := l) (p := p) (g := g) h (by omega)
      refine ⟨N2, ?_, k2, k3.V⟩
      rw [menter_t h hw (by omega) (by omega) (by omega) (by omega) (by omega) (by omega), ob_s, e, if_pos (show iI ((0 : Nat) : Int) = (0 : Int32) from rfl), k1, ob2_s, iL_0, if_lt (by omega) (by omega) (by omega) (by omega), if_neg (by omega)]
      rfl
  · have hne : ¬ iI ((tE n w L G P l p g : Nat) : Int) = (0 : Int32) := by
      have := tE_3 (n := n) (w := w) (L := L) (G := G) (P := P) (l := l) (p := p) (g := g)
      rw [iL_0, iI_eq (by omega) (by omega) (by omega) (by omega)]
      omega
    refine ⟨false, (n, w, k, z, L, P, G, lc, lb), hw, fun M h => ?_, fun N h => ?_⟩
    · refine ⟨M, ?_, h, frZ.rf M⟩
      unfold F_X3_tryEntering
      rw [center_t h hw (by omega) (by omega) (by omega) (by omega) (by omega) (by omega), ob_s, if_neg hne, bnd_v, if_pos rfl, ob_s]
      rfl
    · refine ⟨N, ?_, h, frV.rf N⟩
      rw [menter_t h hw (by omega) (by omega) (by omega) (by omega) (by omega) (by omega), ob_s, if_neg hne]
      rfl
theorem doA_ex {p p' : Nat} {N0 : Wd} (h60 : tl ≤ 60) (hct : ∀ i, i < tl → 33 ≤ tc i ∧ tc i ≤ 126) (hlt : p < tl) (hs : bh 0 (tc p) ≠ 12) (hV : VL tl tc N0 p p') (hp' : p' ≤ tl) (h59 : p' < tl → tc p' = 59) (s : Pst) (hw0 : pW s) : ∃ b s', DoA tl tc p p' s b s' := by
  obtain ⟨n, w, k, z, L, P, G, lc, lb⟩ := s
  have hw : PkW n w k z L P G lc lb := hw0
  have hn := hw.n6
  have hk60 := hw.k60
  have hcc := hct p hlt
  obtain ⟨V1, V2, V3, V4⟩ := hV
  by_cases e1 : tc p = 98
  · cases k with
    | zero =>
      refine ⟨false, (n, w, 0, z, L, P, G, lc, lb), hw, fun M h hx => ⟨M, ?_, h, frZ.rf M⟩, fun N h _ => ⟨N, ?_, h, frV.rf N⟩⟩
      · have h' : PkC 1 n w 0 z L P G lc lb M := h
        rw [tryPart_u hx hlt, if_pos e1]
        unfold F_X3_tryTakingBack
        rw [h'.vk]
        rfl
      · have h' : PkM 55 0 n w 0 z L P G lc lb N := h
        rw [does_u (by omega), if_pos e1, h'.vk]
        rfl
    | succ k =>
      obtain ⟨q, q1, q2, q3⟩ := wf_back hw
      refine ⟨true, (n, w, k, z, L, updN P (lc k) q, G, lc, lb), q2, fun M h hx => ?_, fun N h _ => ?_⟩
      · have h' : PkC 1 n w (k + 1) z L P G lc lb M := h
        obtain ⟨M2, k1, k2, k3⟩ := unmake_I h' hw q1 q3
        refine ⟨M2, ?_, k2, k3.Z⟩
        rw [tryPart_u hx hlt, if_pos e1]
        unfold F_X3_tryTakingBack
        rw [h'.vk, iL_0, if_le (by omega) (by omega) (by omega) (by omega), if_neg (by omega), bnd_v, if_neg (show ¬ (1 : Int32) = iI 0 by decide), k1, ob2_s, ob_s, ob2_s]
        rfl
      · have h' : PkM 55 0 n w (k + 1) z L P G lc lb N := h
        obtain ⟨N2, k1, k2, k3⟩ := backOn_I h' hw q1 q3
        refine ⟨N2, ?_, k2, k3.V⟩
        rw [does_u (by omega), if_pos e1, h'.vk, iL_0, if_le (by omega) (by omega) (by omega) (by omega), if_neg (by omega), k1, ob2_s, if_lt (by omega) (by omega) (by omega) (by omega), if_neg (by omega)]
        rfl
  · by_cases e2 : tc p = 100
    · obtain ⟨S, hS⟩ := SrE_ex hn hw.2.1 hw.2.2.1
      have hlo := Aend_lo hS (a := enc P n)
      have hA := Aend_eq (s := enc P n) hS
      by_cases e : 0 ≤ drv w L G n (enc P n) k
      · have e3 : (k : Int) + Aend w L G n (enc P n) ≤ 60 ∧ drv w L G n (enc P n) k = Aend w L G n (enc P n) := by
          unfold drv at e ⊢
          by_cases e3 : (k : Int) + Aend w L G n (enc P n) ≤ 60
          · rw [if_pos e3]; exact ⟨e3, rfl⟩
          · rw [if_neg e3] at e; omega
        obtain ⟨r, hr⟩ : ∃ r : Nat, S.1 (enc P n) = r := ⟨(S.1 (enc P n)).toNat, by omega⟩
        have hkr : k + r ≤ 60 := by omega
        have hdr : drv w L G n (enc P n) k = (r : Int) := by omega
        obtain ⟨s', p1, p2⟩ := pl_ex hS r k P lc lb hw hr hkr
        refine ⟨true, s', p2, fun M h hx => ?_, fun N h _ => ?_⟩
        · have h' : PkC 1 n w k z L P G lc lb M := h
          obtain ⟨M1, S1, f1, f2, f3, f4, f5, f6, f7⟩ := cstd_I h' hw
          have eS := (f4.eq hS).1
          obtain ⟨M2, k1, k2, k3⟩ := cmk_I (M := M1) f4 f3 hkr (by rw [eS]; exact hr) (h'.frx (by omega) f7) hw f5 f2 f6 (by rw [eS]; exact p1)
          refine ⟨M2, ?_, k2, f7.Z.tr k3⟩
          rw [tryPart_u hx hlt, if_neg e1, if_pos e2, f1, ob2_s, hdr, k1, ob2_s]
          rfl
        · have h' : PkM 55 0 n w k z L P G lc lb N := h
          obtain ⟨N1, q1, q2, q3⟩ := mcanD_I h' hw
          obtain ⟨N2, t1, t2, t3⟩ := mdo_I (M := N1) hS hkr hr q2 hw p1
          refine ⟨N2, ?_, t2, q3.V.tr t3⟩
          rw [does_u (by omega), if_neg e1, if_pos e2, q1, if_pos e, ob2_s, if_neg (show ¬ iI 1 = (0 : Int32) by decide), t1, ob2_s, iL_0, if_lt (by omega) (by omega) (by omega) (by omega), if_neg (by omega)]
          rfl
      · have hdr : drv w L G n (enc P n) k = -1 := by
          unfold drv at e ⊢
          by_cases e3 : (k : Int) + Aend w L G n (enc P n) ≤ 60
          · rw [if_pos e3] at e ⊢; omega
          · rw [if_neg e3]
        refine ⟨false, (n, w, k, z, L, P, G, lc, lb), hw, fun M h hx => ?_, fun N h _ => ?_⟩
        · have h' : PkC 1 n w k z L P G lc lb M := h
          obtain ⟨M1, S1, f1, f2, f3, f4, f5, f6, f7⟩ := cstd_I h' hw
          refine ⟨M1, ?_, h'.frx (by omega) f7, f7.Z⟩
          rw [tryPart_u hx hlt, if_neg e1, if_pos e2, f1, ob2_s, hdr, cmk_n, ob2_s]
          rfl
        · have h' : PkM 55 0 n w k z L P G lc lb N := h
          obtain ⟨N1, q1, q2, q3⟩ := mcanD_I h' hw
          refine ⟨N1, ?_, q2, q3.V⟩
          rw [does_u (by omega), if_neg e1, if_pos e2, q1, if_neg e, ob2_s, if_pos (show iI 0 = (0 : Int32) from rfl)]
          rfl
    · by_cases e3 : tc p = 104 ∨ tc p = 118
      · obtain ⟨v0, v1, v2, v3, -, -, -⟩ := V1 e3
        obtain ⟨b, s', a1, a2, a3⟩ := enterA hw (l := (if tc p = 104 then 0 else 5) + (tc (p + 1) - 48)) (p := tc (p + 3) - 48) (g := tc (p + 5) - 48) (by split <;> omega) (by omega) (by omega)
        have c1 : (((if tc p = 104 then 0 else 5) + (tc (p + 1) - 48) : Nat) : Int) = (if tc p = 104 then 0 else 5) + ((tc (p + 1) : Int) - 48) := by split <;> omega
        have c2 : ((tc (p + 3) - 48 : Nat) : Int) = (tc (p + 3) : Int) - 48 := by omega
        have c3 : ((tc (p + 5) - 48 : Nat) : Int) = (tc (p + 5) : Int) - 48 := by omega
        rw [c1, c2, c3] at a2 a3
        refine ⟨b, s', a1, fun M h hx => ?_, fun N h hVN => ?_⟩
        · obtain ⟨M', m1, m2, m3⟩ := a2 M h
          refine ⟨M', ?_, m2, m3⟩
          rw [tryPart_u hx hlt, if_neg e1, if_neg e2, digitAt_y hx (show p + 1 < tl by omega), digitAt_y hx (show p + 3 < tl by omega), digitAt_y hx (show p + 5 < tl by omega)]
          by_cases e4 : tc p = 104
          · rw [if_pos e4, ob_s, ob_s, ob_s]
            rw [if_pos e4, Int.zero_add] at m1
            rw [m1, ob2_s]
          · rw [if_neg e4, if_pos (by omega), ob_s, ob_s, ob_s, show (5 : Int32) = iI 5 from rfl, iI_add]
            rw [if_neg e4] at m1
            rw [m1, ob2_s]
        · obtain ⟨-, -, -, -, w1, w2, w3⟩ := hVN.1 e3
          obtain ⟨N', m1, m2, m3⟩ := a3 N h
          refine ⟨N', ?_, m2, m3⟩
          rw [does_u (by omega), if_neg e1, if_neg e2, if_pos e3, w1, w2, w3]
          exact m1
      · by_cases e4 : tc p = 119
        · obtain ⟨v, -, u1, u2, u3, u4⟩ := V2 e4
          obtain ⟨x, hx0⟩ : ∃ x : Nat, v = x := ⟨v.toNat, by rcases u4 with u4 | u4 <;> omega⟩
          have hcell : ∀ M, Tk tl tc M → F_X2_cellAt (iI ((p + 1 : Nat) : Int)) M = some (iI (x : Int)) := fun M hx => by
            unfold F_X2_cellAt
            rw [s1_I, codeAt_I hx.2.2.1 hx.2.2.2 hx.1 (by omega), ob_s, among_I (by split <;> (try have := hct (p + 1 + 1) (by omega)) <;> omega), bnd_v, i10_eq0, digitAt_y hx u2]
            rcases u4 with ⟨u5, u6⟩ | ⟨u5, u6, u7, u8, u9⟩
            · have hno : ¬ (48 ≤ (if p + 1 + 1 < tl then tc (p + 1 + 1) else 0) ∧ (if p + 1 + 1 < tl then tc (p + 1 + 1) else 0) ≤ 57) := by
                by_cases e5 : p + 1 + 1 < tl
                · rw [if_pos e5]
                  have := h59 (by omega)
                  rw [u5] at this
                  rw [show p + 1 + 1 = p + 2 from rfl]
                  omega
                · rw [if_neg e5]; omega
              rw [if_neg hno, ob_s, ← u6, hx0]
            · have hyes : 48 ≤ (if p + 1 + 1 < tl then tc (p + 1 + 1) else 0) ∧ (if p + 1 + 1 < tl then tc (p + 1 + 1) else 0) ≤ 57 := by
                rw [if_pos (show p + 1 + 1 < tl by omega)]
                exact ⟨u7, u8⟩
              have d2 := digitAt_y hx (show p + 1 + 1 < tl by omega)
              rw [if_pos hyes, ob_s, d2, ob_s, show (10 : Int32) = iI 10 from rfl, iI_mul, iI_add]
              show some (iI (10 * ((tc (p + 1) : Int) - 48) + ((tc (p + 2) : Int) - 48))) = _
              rw [← u6, hx0]
          have hmod : ∀ N, VL tl tc N p p' → N.1 53 16 = iI (x : Int) := fun N hVN => by
            obtain ⟨v', n1, -, n2, n3, n4⟩ := hVN.2.1 e4
            rw [n1]
            congr 1
            rcases u4 with ⟨u5, u6⟩ | ⟨u5, u6, u7, u8, u9⟩
            · rcases n4 with ⟨n5, n6⟩ | ⟨n5, n6, n7, n8, n9⟩ <;> omega
            · rcases n4 with ⟨n5, n6⟩ | ⟨n5, n6, n7, n8, n9⟩ <;> omega
          have hxr : x < 100 := by rcases u4 with u4 | u4 <;> omega
          have hx25 : x < 25 := by omega
          by_cases e5 : okT n w L P G x = true
          · have hwf : w.testBit x = true ∨ ∀ j, j < n → ¬ (cm (L j) (P j) (G j)).testBit x = true := by
              have e6 := e5
              unfold okT at e6
              rw [Bool.or_eq_true, Bool.and_eq_true, decide_eq_true_eq] at e6
              rcases e6 with e6 | e6
              · exact Or.inl e6
              · exact Or.inr (fcar_none e6.1)
            refine ⟨true, (n, w ^^^ 2 ^ x, 0, z, L, P, G, lc, lb), wf_wall hw hx25 hwf, fun M h hx => ?_, fun N h hVN => ?_⟩
            · have h' : PkC 1 n w k z L P G lc lb M := h
              obtain ⟨M2, k1, k2, k3⟩ := turn_I h' hw.2.1 hx25
              refine ⟨M2, ?_, k2, k3.Z⟩
              rw [tryPart_u hx hlt, if_neg e1, if_neg e2, if_neg (by omega), if_neg (by omega), if_pos e4, hcell M hx, ob_s]
              unfold F_X3_tryWall
              rw [cwall_t h' hw hx25, if_pos e5, ob_s, if_pos (show iI 0 = (0 : Int32) from rfl), bnd_v, if_neg (by decide), k1, ob2_s, ob_s, ob2_s]
              rfl
            · have h' : PkM 55 0 n w k z L P G lc lb N := h
              obtain ⟨N2, k1, k2, k3⟩ := mturn_I h' hn hw.2.1 hx25
              refine ⟨N2, ?_, k2, k3.V⟩
              rw [does_u (by omega), if_neg e1, if_neg e2, if_neg e3, if_pos e4, hmod N hVN, mcanT_I h' hw hx25, if_pos e5, ob_s, if_neg (show ¬ iI 1 = (0 : Int32) by decide), k1, ob2_s]
              rfl
          · refine ⟨false, (n, w, k, z, L, P, G, lc, lb), hw, fun M h hx => ⟨M, ?_, h, frZ.rf M⟩, fun N h hVN => ⟨N, ?_, h, frV.rf N⟩⟩
            · have h' : PkC 1 n w k z L P G lc lb M := h
              rw [tryPart_u hx hlt, if_neg e1, if_neg e2, if_neg (by omega), if_neg (by omega), if_pos e4, hcell M hx, ob_s]
              unfold F_X3_tryWall
              rw [cwall_t h' hw hx25, if_neg e5, ob_s, if_neg (by decide), bnd_v, if_pos rfl, ob_s, ob2_s]
              rfl
            · have h' : PkM 55 0 n w k z L P G lc lb N := h
              rw [does_u (by omega), if_neg e1, if_neg e2, if_neg e3, if_pos e4, hmod N hVN, mcanT_I h' hw hx25, if_neg e5, ob_s, if_pos (show iI 0 = (0 : Int32) from rfl)]
              rfl
        · have e5 : 48 ≤ tc p ∧ tc p ≤ 53 := by
            rw [bh0, if_neg e3, if_neg e4, if_neg (by omega)] at hs
            exact Classical.byContradiction fun z => hs (if_neg z)
          obtain ⟨u1, u2, u3, -, -⟩ := V4 e5.1 e5.2
          have hsg : (if tc (p + 1) = 43 then (1 : Int) else -1) = if tc (p + 1) = 45 then -1 else 1 := by
            rcases u2 with u2 | u2
            · rw [if_pos u2, if_neg (by omega)]
            · rw [if_neg (by omega), if_pos u2]
          obtain ⟨b, hb⟩ : ∃ b : Int, b = (if tc (p + 1) = 45 then -1 else 1) * ((tc (p + 2) : Int) - 48) := ⟨_, rfl⟩
          have hbr : -3 ≤ b ∧ b ≤ 3 ∧ b ≠ 0 := by
            rw [hb]
            by_cases e6 : tc (p + 1) = 45
            · rw [if_pos e6]; omega
            · rw [if_neg e6]; omega
          obtain ⟨i, hi⟩ : ∃ i : Nat, (tc p : Int) - 48 = i := ⟨tc p - 48, by omega⟩
          have hcls : ∀ M, Tk tl tc M → F_X3_tryPart (iI (p : Int)) M = obind2 (F_X3_trySliding (iI (i : Int)) (iI b) M) fun v58 M59 => some (v58, M59) := fun M hx => by
            rw [tryPart_u hx hlt, if_neg e1, if_neg e2, if_neg (by omega), if_neg (by omega), if_neg e4, digitAt_y hx hlt, ob_s, signAt_y hx (show p + 1 < tl by omega), ob_s, digitAt_y hx (show p + 2 < tl by omega), ob_s, iI_mul, ← hb, hi]
          have hmod : ∀ N, VL tl tc N p p' → N.1 53 16 = iI (i : Int) ∧ N.1 53 17 = iI b := fun N hVN => by
            obtain ⟨-, -, -, n1, n2⟩ := hVN.2.2.2 e5.1 e5.2
            rw [n1, n2, hsg, ← hb, hi]
            exact ⟨rfl, rfl⟩
          by_cases e6 : tS n w L G P (i : Int) b = 0 ∧ k < 60
          · obtain ⟨s1, s2, s3⟩ := tS_0 e6.1
            rw [Int.toNat_natCast] at s3
            have hin : i < n := by omega
            obtain ⟨q, q1, q2, q3, q4⟩ := slide_y hw hin s2.1 s2.2.1 s3
            refine ⟨true, (n, w, k + 1, z, L, updN P i q, G, updN lc k i, updZ lb k b), wf_slide hw hin s2.1 s2.2.1 e6.2 q1 q3, fun M h hx => ?_, fun N h hVN => ?_⟩
            · have h' : PkC 1 n w k z L P G lc lb M := h
              obtain ⟨M2, k1, k2, k3⟩ := make_I h' hw hin e6.2 q1
              refine ⟨M2, ?_, k2, k3.Z⟩
              rw [hcls M hx]
              unfold F_X3_trySliding
              rw [cslide_t h' hw (by omega) (by omega) (by omega) (by omega), e6.1, ob_s, if_pos (show iI ((0 : Nat) : Int) = (0 : Int32) from rfl), h'.vk, show (60 : Int32) = iI 60 from rfl, if_le (by omega) (by omega) (by omega) (by omega), if_neg (by omega), bnd_v, if_neg (by decide), k1, ob2_s, ob_s, ob2_s]
              rfl
            · have h' : PkM 55 0 n w k z L P G lc lb N := h
              obtain ⟨N2, k1, k2, k3⟩ := slideOn_I h' hw hin e6.2 q1
              refine ⟨N2, ?_, k2, k3.V⟩
              obtain ⟨m1, m2⟩ := hmod N hVN
              rw [does_u (by omega), if_neg e1, if_neg e2, if_neg e3, if_neg e4, m1, m2, isCar_I h' hw (by omega) (by omega), i10_eq0, if_pos (by omega), mcanS_I h' hw hin s2.1 s2.2.1 s2.2.2, if_pos s3, ob_s, if_neg (show ¬ iI 1 = (0 : Int32) by decide), h'.vk, show (60 : Int32) = iI 60 from rfl, if_le (by omega) (by omega) (by omega) (by omega), if_neg (by omega), k1, ob2_s, iL_0, if_lt (by omega) (by omega) (by omega) (by omega), if_neg (by omega)]
              rfl
          · have ht3 := tS_3 (n := n) (w := w) (L := L) (G := G) (P := P) (c := (i : Int)) (b := b)
            refine ⟨false, (n, w, k, z, L, P, G, lc, lb), hw, fun M h hx => ⟨M, ?_, h, frZ.rf M⟩, fun N h hVN => ⟨N, ?_, h, frV.rf N⟩⟩
            · have h' : PkC 1 n w k z L P G lc lb M := h
              rw [hcls M hx]
              unfold F_X3_trySliding
              rw [cslide_t h' hw (by omega) (by omega) (by omega) (by omega), ob_s, iL_0, if_eq (by omega) (by omega) (by omega) (by omega), h'.vk, show (60 : Int32) = iI 60 from rfl, if_le (by omega) (by omega) (by omega) (by omega)]
              by_cases e7 : tS n w L G P (i : Int) b = 0
              · rw [if_pos (by omega), if_pos (by omega), bnd_v, if_pos rfl, ob_s, ob2_s]
                rfl
              · rw [if_neg (by omega), bnd_v, if_pos rfl, ob_s, ob2_s]
                rfl
            · have h' : PkM 55 0 n w k z L P G lc lb N := h
              obtain ⟨m1, m2⟩ := hmod N hVN
              rw [does_u (by omega), if_neg e1, if_neg e2, if_neg e3, if_neg e4, m1, m2, isCar_I h' hw (by omega) (by omega), i10_eq0]
              by_cases e7 : 0 ≤ (i : Int) ∧ (i : Int) < n
              · rw [if_pos e7, mcanS_I h' hw (by omega) hbr.1 hbr.2.1 hbr.2.2, ob_s, i10_eq0]
                by_cases e8 : canS w L G P n i b = true
                · rw [if_pos e8, h'.vk, show (60 : Int32) = iI 60 from rfl, if_le (by omega) (by omega) (by omega) (by omega)]
                  have : tS n w L G P (i : Int) b = 0 := by
                    unfold tS
                    rw [if_neg (fun z => z e7), if_neg (fun z => z hbr), Int.toNat_natCast, if_pos e8]
                  rw [if_pos (by omega)]
                  rfl
                · rw [if_neg e8]; rfl
              · rw [if_neg e7]; rfl
end DP
