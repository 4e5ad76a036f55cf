/-! ===== parks: what the cells hold; taken cells; rooms ===== -/
/-- the log's slides, taken back one by one, lead through arrangements that are possible -/
def gdl (w : Nat) (L G : Nat → Nat) (n : Nat) (lc : Nat → Nat) (lb : Nat → Int) : Nat → (Nat → Nat) → Prop
  | 0, _ => True
  | k + 1, P => lc k < n ∧ -3 ≤ lb k ∧ lb k ≤ 3 ∧ 0 ≤ (P (lc k) : Int) - lb k ∧ okb w L G (updN P (lc k) ((P (lc k) : Int) - lb k).toNat) n = true ∧ gdl w L G n lc lb k (updN P (lc k) ((P (lc k) : Int) - lb k).toNat)
/-- cars, walls, slides, stop, lanes, places, lengths, cars and changes of the log -/
def PkW (n w k : Nat) (z : Int) (L P G lc : Nat → Nat) (lb : Nat → Int) : Prop :=
  n ≤ 6 ∧ w < 33554432 ∧ LGok L G n ∧ okb w L G P n = true ∧ k ≤ 60 ∧ (-1 ≤ z ∧ z < 1000) ∧ gdl w L G n lc lb k P
/-- the class's park at cell b -/
def PkC (b n w k : Nat) (z : Int) (L P G lc : Nat → Nat) (lb : Nat → Int) (M : Wd) : Prop :=
  M.1 b 5 = iI (n : Int) ∧ M.1 b 6 = iI (w : Int) ∧ M.1 b 7 = iI (k : Int) ∧ M.1 b 8 = (if z = -1 then iI 0 else iI 1) ∧ (z ≠ -1 → M.1 b 9 = iI z) ∧
  (∀ i, i < n → M.1 (b + 1) i = iI (L i : Int)) ∧ (∀ i, i < n → M.1 (b + 2) i = iI (P i : Int)) ∧ (∀ i, i < n → M.1 (b + 3) i = iI (G i : Int)) ∧ (∀ j, j < k → M.1 (b + 4) j = iI (lc j : Int)) ∧ ∀ j, j < k → M.1 (b + 5) j = iI (lb j)
/-- the model's park in cell c from o on -/
def PkM (c o n w k : Nat) (z : Int) (L P G lc : Nat → Nat) (lb : Nat → Int) (M : Wd) : Prop :=
  M.1 c (o + 0) = iI (n : Int) ∧ M.1 c (o + 19) = iI (w : Int) ∧ M.1 c (o + 20) = iI (k : Int) ∧ M.1 c (o + 81) = iI z ∧
  (∀ i, i < n → M.1 c (o + (1 + i)) = iI (L i : Int)) ∧ (∀ i, i < n → M.1 c (o + (7 + i)) = iI (P i : Int)) ∧ (∀ i, i < n → M.1 c (o + (13 + i)) = iI (G i : Int)) ∧ ∀ j, j < k → M.1 c (o + (21 + j)) = iI (8 * (lc j : Int) + lb j + 3)
section PK
variable {n w k : Nat} {z : Int} {L P G lc : Nat → Nat} {lb : Nat → Int} {M : Wd}
theorem PkC.vn (h : PkC 1 n w k z L P G lc lb M) : M.1 1 5 = iI (n : Int) := h.1
theorem PkC.vw (h : PkC 1 n w k z L P G lc lb M) : M.1 1 6 = iI (w : Int) := h.2.1
theorem PkC.vk (h : PkC 1 n w k z L P G lc lb M) : M.1 1 7 = iI (k : Int) := h.2.2.1
theorem PkC.vL (h : PkC 1 n w k z L P G lc lb M) {i : Nat} (hi : i < n) : M.1 2 i = iI (L i : Int) := h.2.2.2.2.2.1 i hi
theorem PkC.vP (h : PkC 1 n w k z L P G lc lb M) {i : Nat} (hi : i < n) : M.1 3 i = iI (P i : Int) := h.2.2.2.2.2.2.1 i hi
theorem PkC.vG (h : PkC 1 n w k z L P G lc lb M) {i : Nat} (hi : i < n) : M.1 4 i = iI (G i : Int) := h.2.2.2.2.2.2.2.1 i hi
theorem PkC.vlc (h : PkC 1 n w k z L P G lc lb M) {i : Nat} (hi : i < k) : M.1 5 i = iI (lc i : Int) := h.2.2.2.2.2.2.2.2.1 i hi
theorem PkC.vlb (h : PkC 1 n w k z L P G lc lb M) {i : Nat} (hi : i < k) : M.1 6 i = iI (lb i) := h.2.2.2.2.2.2.2.2.2 i hi
theorem PkW.n6 (h : PkW n w k z L P G lc lb) : n ≤ 6 := h.1
theorem PkW.in5 (h : PkW n w k z L P G lc lb) {i : Nat} (hi : i < n) : P i + G i ≤ 5 := okb_in h.2.2.2.1 hi
theorem PkW.P4 (h : PkW n w k z L P G lc lb) {i : Nat} (hi : i < n) : P i < 4 := by
  have h1 := h.in5 hi
  have h2 := h.2.2.1 i hi
  omega
theorem add_iI (c : Nat) (i : Nat) : (OfNat.ofNat c : Int32) + iI (i : Int) = iI ((c + i : Nat) : Int) := by
  rw [iL_l, iI_add]; rfl
theorem a1_I (i : Nat) : (1 : Int32) + iI (i : Int) = iI ((1 + i : Nat) : Int) := by rw [show (1 : Int32) = iI 1 from rfl, iI_add]; rfl
theorem a7_I (i : Nat) : (7 : Int32) + iI (i : Int) = iI ((7 + i : Nat) : Int) := by rw [show (7 : Int32) = iI 7 from rfl, iI_add]; rfl
theorem a13_I (i : Nat) : (13 : Int32) + iI (i : Int) = iI ((13 + i : Nat) : Int) := by rw [show (13 : Int32) = iI 13 from rfl, iI_add]; rfl
theorem a21_I (i : Nat) : (21 : Int32) + iI (i : Int) = iI ((21 + i : Nat) : Int) := by rw [show (21 : Int32) = iI 21 from rfl, iI_add]; rfl
theorem s1_I (i : Nat) : iI (i : Int) + (1 : Int32) = iI ((i + 1 : Nat) : Int) := by rw [show (1 : Int32) = iI 1 from rfl, iI_add]; rfl
theorem taken_loop (h : PkC 1 n w k z L P G lc lb M) (hW : PkW n w k z L P G lc lb) {ρ : Type} {K : Int32 → Option ρ} : ∀ (r q i : Nat), i + r = n →
    F_X1_takenCells_L7 M K (q + 1 + r) (iI (ocm w L G P i : Nat)) (iI (i : Int)) = K (iI (ocm w L G P n : Nat))
  | 0, q, i, hr => by
    have hn := hW.n6
    show (if (M.1 1 5) ≤ iI (i : Int) then K (iI (ocm w L G P i : Nat)) else _) = _
    rw [h.vn, if_le (by omega) (by omega) (by omega) (by omega), if_pos (by omega), show i = n by omega]
  | r + 1, q, i, hr => by
    have hn := hW.n6
    have hi : i < n := by omega
    have hg := hW.2.2.1 i hi
    show (if (M.1 1 5) ≤ iI (i : Int) then K (iI (ocm w L G P i : Nat)) else if (6 : Int32) ≤ iI (i : Int) then K (iI (ocm w L G P i : Nat)) else ldi (M.1 2) 6 (iI (i : Int)) fun v5 => ldi (M.1 3) 6 (iI (i : Int)) fun v8 => ldi (M.1 4) 6 (iI (i : Int)) fun v11 => bnd (iI (ocm w L G P i : Nat) ||| (F_X3_cellsOf v5 v8 v11)) fun v15 => bnd (iI (i : Int) + (1 : Int32)) fun v17 => F_X1_takenCells_L7 M K (q + 1 + r) v15 v17) = _
    rw [h.vn, if_le (by omega) (by omega) (by omega) (by omega), if_neg (by omega), show (6 : Int32) = iI 6 from rfl, if_le (by omega) (by omega) (by omega) (by omega), if_neg (by omega), ldi_N (by omega) (by omega), ldi_N (by omega) (by omega), ldi_N (by omega) (by omega), h.vL hi, h.vP hi, h.vG hi, cellsOf_I hg.1 hg.2.1 hg.2.2 (hW.in5 hi), bnd_v, bnd_v, iI_or, s1_I]
    exact taken_loop h hW r q (i + 1) (by omega)
theorem taken_I (h : PkC 1 n w k z L P G lc lb M) (hW : PkW n w k z L P G lc lb) : F_X1_takenCells M = some (iI (ocm w L G P n : Nat)) := by
  unfold F_X1_takenCells
  obtain ⟨p, hp⟩ := fuelS n (by have := hW.n6; omega)
  rw [bnd_v, h.vw, hp, iL_0, show iI 0 = iI ((0 : Nat) : Int) from rfl]
  exact taken_loop h hW (K := fun v => some v) n p 0 (by omega)
theorem PkW.oc (hW : PkW n w k z L P G lc lb) : ocm w L G P n < 33554432 := ocm_lt hW.2.1 hW.2.2.1 fun i hi => hW.in5 hi
theorem hasCar_I (h : PkC 1 n w k z L P G lc lb M) (hW : PkW n w k z L P G lc lb) {c : Int} (c1 : -2147483648 ≤ c) (c2 : c < 2147483648) : F_X1_hasCar (iI c) M = if 0 ≤ c ∧ c < (n : Int) then iI 1 else iI 0 := by
  have hn := hW.n6
  unfold F_X1_hasCar
  rw [h.vn, iL_0, show (6 : Int32) = iI 6 from rfl, iL_1, if_lt (by omega) (by omega) (by omega) (by omega), if_le (by omega) (by omega) (by omega) (by omega), if_le (by omega) (by omega) (by omega) (by omega)]
  by_cases e : 0 ≤ c ∧ c < (n : Int)
  · rw [if_neg (by omega), if_neg (by omega), if_neg (by omega), if_pos e]
  · rw [if_neg e]
    by_cases e1 : c < 0
    · rw [if_pos e1]
    · rw [if_neg e1, if_pos (by omega)]
/-! rooms -/
theorem PkW.elt (hW : PkW n w k z L P G lc lb) : enc P n < 4 ^ n := enc_lt fun _ hi => hW.P4 hi
theorem okc_set (h4 : ∀ i, i < n → P i < 4) {c q : Nat} (hq : q < 4) : okc w L G n (setd (enc P n) c q) = okb w L G (updN P c q) n := by
  unfold okc
  rw [setd_dg _ _ _ hq]
  refine okb_cong fun i hi => ⟨?_, rfl, rfl⟩
  by_cases e : i = c
  · subst e; rw [updN_s, updN_s]
  · rw [updN_n e, updN_n e, dg_enc h4 i hi]
theorem okc_enc (h4 : ∀ i, i < n → P i < 4) : okc w L G n (enc P n) = okb w L G P n := okb_cong fun i hi => ⟨dg_enc h4 i hi, rfl, rfl⟩
theorem PkW.vv (hW : PkW n w k z L P G lc lb) : VV w L G n (enc P n) := ⟨hW.elt, by rw [okc_enc fun _ hi => hW.P4 hi]; exact hW.2.2.2.1⟩
/-- one cell more ahead of a car -/
def ahd (G : Nat → Nat) (c : Nat) (f : Bool) (p : Nat) : Int := if f = true then (p : Int) + (G c : Int) else (p : Int) - 1
theorem stp_room (hW : PkW n w k z L P G lc lb) {c p : Nat} {f : Bool} (hc : c < n) (hp : okb w L G (updN P c p) n = true) (hf : if f = true then P c ≤ p else p ≤ P c) :
    (0 ≤ ahd G c f p ∧ ahd G c f p < 5 ∧ (ocm w L G P n).testBit (cix (L c) (ahd G c f p).toNat) = false → ∃ p' : Nat, p' < 4 ∧ (p : Int) + sgn f = (p' : Int) ∧ okb w L G (updN P c p') n = true ∧ stp w L G n c f (setd (enc P n) c p) = some (setd (enc P n) c p')) ∧
    (¬ (0 ≤ ahd G c f p ∧ ahd G c f p < 5 ∧ (ocm w L G P n).testBit (cix (L c) (ahd G c f p).toNat) = false) → stp w L G n c f (setd (enc P n) c p) = none) := by
  have hLG := hW.2.2.1 c hc
  have hok := hW.2.2.2.1
  have h5 := hW.in5 hc
  have hP4 : ∀ i, i < n → P i < 4 := fun i hi => hW.P4 hi
  have q5 : p + G c ≤ 5 := by have := okb_in hp hc; rwa [updN_s] at this
  have hp4 : p < 4 := by omega
  have hdg : dg (setd (enc P n) c p) c = p := by rw [dg_setd _ _ _ _ hp4, if_pos rfl]
  have hmv := (okb_move hok hc (q := p)).mp hp
  have hcix := cix_inj_f (L c) hLG.1
  have hstep : ∀ p' : Nat, p' < 4 → (p : Int) + sgn f = (p' : Int) → stp w L G n c f (setd (enc P n) c p) = if okb w L G (updN P c p') n = true then some (setd (enc P n) c p') else none := fun p' h4 he => by
    rw [stp_in (q := p') h4 (by rw [hdg]; exact he), setd_setd _ _ _ _ hp4, okc_set hP4 h4]
  cases f with
  | true =>
    have hf' : P c ≤ p := hf
    have ea : ahd G c true p = ((p + G c : Nat) : Int) := rfl
    rw [ea, Int.toNat_natCast]
    constructor
    · rintro ⟨h1, h2, h3⟩
      have hok2 : okb w L G (updN P c (p + 1)) n = true := (okb_move hok hc).mpr ⟨by omega, fun x hx => by
        obtain ⟨q, q1, q2, q3, rfl⟩ := (cm_bit hLG.1 hLG.2.1 hLG.2.2 (show p + 1 + G c ≤ 5 by omega) x).mp hx
        by_cases e : q = p + G c
        · subst e
          rw [h3]; exact fun z => by cases z.1
        · exact hmv.2 _ ((cm_bit hLG.1 hLG.2.1 hLG.2.2 q5 _).mpr ⟨q, q1, by omega, by omega, rfl⟩)⟩
      exact ⟨p + 1, by omega, rfl, hok2, by rw [hstep (p + 1) (by omega) rfl, if_pos hok2]⟩
    · intro hno
      by_cases e4 : p + 1 < 4
      · rw [hstep (p + 1) e4 rfl, if_neg]
        intro hok2
        have hm2 := (okb_move hok hc).mp hok2
        refine hno ⟨by omega, by omega, Bool.eq_false_iff.mpr fun z => ?_⟩
        refine hm2.2 (cix (L c) (p + G c)) ((cm_bit hLG.1 hLG.2.1 hLG.2.2 hm2.1 _).mpr ⟨p + G c, by omega, by omega, by omega, rfl⟩) ⟨z, fun y => ?_⟩
        obtain ⟨q, q1, q2, q3, q4⟩ := (cm_bit hLG.1 hLG.2.1 hLG.2.2 h5 _).mp y
        have := hcix (p + G c) (by omega) q q1 q4
        omega
      · refine stp_out ?_
        rw [hdg]
        show ¬ (0 ≤ (p : Int) + 1 ∧ (p : Int) + 1 ≤ 3)
        omega
  | false =>
    have hf' : p ≤ P c := hf
    have ea : ahd G c false p = (p : Int) - 1 := rfl
    rw [ea]
    constructor
    · rintro ⟨h1, h2, h3⟩
      rw [show ((p : Int) - 1).toNat = p - 1 by omega] at h3
      have hok2 : okb w L G (updN P c (p - 1)) n = true := (okb_move hok hc).mpr ⟨by omega, fun x hx => by
        obtain ⟨q, q1, q2, q3, rfl⟩ := (cm_bit hLG.1 hLG.2.1 hLG.2.2 (show p - 1 + G c ≤ 5 by omega) x).mp hx
        by_cases e : q = p - 1
        · subst e
          rw [h3]; exact fun z => by cases z.1
        · exact hmv.2 _ ((cm_bit hLG.1 hLG.2.1 hLG.2.2 q5 _).mpr ⟨q, q1, by omega, by omega, rfl⟩)⟩
      have he : (p : Int) + sgn false = ((p - 1 : Nat) : Int) := by
        show (p : Int) + (-1) = _
        omega
      exact ⟨p - 1, by omega, he, hok2, by rw [hstep (p - 1) (by omega) he, if_pos hok2]⟩
    · intro hno
      by_cases e4 : 1 ≤ p
      · have he : (p : Int) + sgn false = ((p - 1 : Nat) : Int) := by
          show (p : Int) + (-1) = _
          omega
        rw [hstep (p - 1) (by omega) he, if_neg]
        intro hok2
        have hm2 := (okb_move hok hc).mp hok2
        refine hno ⟨by omega, by omega, Bool.eq_false_iff.mpr fun z => ?_⟩
        rw [show ((p : Int) - 1).toNat = p - 1 by omega] at z
        refine hm2.2 (cix (L c) (p - 1)) ((cm_bit hLG.1 hLG.2.1 hLG.2.2 hm2.1 _).mpr ⟨p - 1, by omega, by omega, by omega, rfl⟩) ⟨z, fun y => ?_⟩
        obtain ⟨q, q1, q2, q3, q4⟩ := (cm_bit hLG.1 hLG.2.1 hLG.2.2 h5 _).mp y
        have := hcix (p - 1) (by omega) q q1 q4
        omega
      · refine stp_out ?_
        rw [hdg]
        show ¬ (0 ≤ (p : Int) + (-1) ∧ (p : Int) + (-1) ≤ 3)
        omega
theorem pth_s {c m a : Nat} {f : Bool} : pth w L G n c f (m + 1) a = match stp w L G n c f a with
    | none => []
    | some b => b :: pth w L G n c f m b := rfl
theorem room_loop (h : PkC 1 n w k z L P G lc lb M) (hW : PkW n w k z L P G lc lb) {c : Nat} {f : Bool} (hc : c < n) {ρ : Type} {K : Int32 → Option ρ} : ∀ (r q j p : Nat), j + r = 3 → okb w L G (updN P c p) n = true → (if f = true then P c ≤ p else p ≤ P c) →
    F_X1_roomOf_L48 (iI (c : Int)) (iI (sgn f)) (iI (ocm w L G P n : Nat)) M K (q + 1 + r) (iI (ahd G c f p)) (iI (j : Int)) = K (iI ((j + (pth w L G n c f r (setd (enc P n) c p)).length : Nat) : Int))
  | 0, q, j, p, hr, hp, hf => by
    show (if (3 : Int32) ≤ iI (j : Int) then K (iI (j : Int)) else _) = K (iI ((j + 0 : Nat) : Int))
    rw [show (3 : Int32) = iI 3 from rfl, if_le (by omega) (by omega) (by omega) (by omega), if_pos (by omega), Nat.add_zero]
  | r + 1, q, j, p, hr, hp, hf => by
    have hn := hW.n6
    have hLG := hW.2.2.1 c hc
    have q5 : p + G c ≤ 5 := by have := okb_in hp hc; rwa [updN_s] at this
    obtain ⟨s1, s2⟩ := stp_room hW hc hp hf
    have hb1 : -1 ≤ ahd G c f p := by
      cases f with
      | true => show (-1 : Int) ≤ (p : Int) + (G c : Int); omega
      | false => show (-1 : Int) ≤ (p : Int) - 1; omega
    have hb2 : ahd G c f p ≤ 5 := by
      cases f with
      | true => show (p : Int) + (G c : Int) ≤ 5; omega
      | false => show (p : Int) - 1 ≤ 5; omega
    have ho := hW.oc
    show (if (3 : Int32) ≤ iI (j : Int) then K (iI (j : Int)) else if iI (ahd G c f p) < 0 then K (iI (j : Int)) else if (5 : Int32) ≤ iI (ahd G c f p) then K (iI (j : Int)) else ldi (M.1 2) 6 (iI (c : Int)) fun v21 => if (iI (ocm w L G P n : Nat) &&& (F_X3_bitOf v21 (iI (ahd G c f p)))) = 0 then bnd (iI (j : Int) + (1 : Int32)) fun v26 => bnd (iI (ahd G c f p) + iI (sgn f)) fun v28 => F_X1_roomOf_L48 (iI (c : Int)) (iI (sgn f)) (iI (ocm w L G P n : Nat)) M K (q + 1 + r) v28 v26 else K (iI (j : Int))) = _
    rw [show (3 : Int32) = iI 3 from rfl, if_le (by omega) (by omega) (by omega) (by omega), if_neg (by omega), iL_0, if_lt (by omega) (by omega) (by omega) (by omega), show (5 : Int32) = iI 5 from rfl, if_le (by omega) (by omega) (by omega) (by omega), pth_s]
    by_cases e1 : ahd G c f p < 0
    · rw [if_pos e1, s2 (fun z => by omega)]; rfl
    · rw [if_neg e1]
      by_cases e2 : 5 ≤ ahd G c f p
      · rw [if_pos e2, s2 (fun z => by omega)]; rfl
      · obtain ⟨x, hx⟩ : ∃ x : Nat, ahd G c f p = x := ⟨(ahd G c f p).toNat, by omega⟩
        rw [hx, Int.toNat_natCast] at s1 s2
        rw [if_neg e2, ldi_N (by omega) (by omega), h.vL hc, hx, bitOf_f _ hLG.1 _ (by omega), iI_and]
        have hlt : ocm w L G P n &&& 2 ^ cix (L c) x ≤ ocm w L G P n := Nat.and_le_left
        rw [if_eq (by omega) (by omega) (by omega) (by omega)]
        by_cases e3 : (ocm w L G P n).testBit (cix (L c) x) = false
        · obtain ⟨p', p1, p2, p3, p4⟩ := s1 ⟨by omega, by omega, e3⟩
          rw [if_pos (by have := (fb_bit_nat (ocm w L G P n) (cix (L c) x)).mpr e3; omega), bnd_v, bnd_v, s1_I, iI_add, p4]
          have ea : (x : Int) + sgn f = ahd G c f p' := by
            rw [← hx]
            cases f with
            | true => show (p : Int) + (G c : Int) + 1 = (p' : Int) + (G c : Int); have : (p : Int) + 1 = p' := p2; omega
            | false => show (p : Int) - 1 + (-1) = (p' : Int) - 1; have : (p : Int) + (-1) = p' := p2; omega
          rw [ea]
          have hf2 : (if f = true then P c ≤ p' else p' ≤ P c) := by
            cases f with
            | true => show P c ≤ p'; have h1 : P c ≤ p := hf; have : (p : Int) + 1 = p' := p2; omega
            | false => show p' ≤ P c; have h1 : p ≤ P c := hf; have : (p : Int) + (-1) = p' := p2; omega
          rw [room_loop h hW hc r q (j + 1) p' (by omega) p3 hf2]
          show K (iI ((j + 1 + (pth w L G n c f r (setd (enc P n) c p')).length : Nat) : Int)) = K (iI ((j + ((pth w L G n c f r (setd (enc P n) c p')).length + 1) : Nat) : Int))
          rw [show j + 1 + (pth w L G n c f r (setd (enc P n) c p')).length = j + ((pth w L G n c f r (setd (enc P n) c p')).length + 1) by omega]
        · rw [if_neg (fun z => e3 ((fb_bit_nat (ocm w L G P n) (cix (L c) x)).mp (by omega))), s2 (fun z => e3 z.2.2)]; rfl
/-- by how many cells a car can slide -/
def rmm (w : Nat) (L G P : Nat → Nat) (n c : Nat) (f : Bool) : Nat := (pth w L G n c f 3 (enc P n)).length
theorem updN_self {f : Nat → Nat} {c : Nat} : updN f c (f c) = f := by
  funext i
  by_cases e : i = c
  · subst e; exact updN_s
  · exact updN_n e
theorem setd_encP (hW : PkW n w k z L P G lc lb) {c : Nat} (hc : c < n) : setd (enc P n) c (P c) = enc P n := by
  have := setd_self c (enc P n)
  rwa [dg_enc (fun i hi => hW.P4 hi) c hc] at this
theorem roomOf_I (h : PkC 1 n w k z L P G lc lb M) (hW : PkW n w k z L P G lc lb) {c : Nat} {f : Bool} (hc : c < n) : F_X1_roomOf (iI (c : Int)) (iI (sgn f)) M = some (iI (rmm w L G P n c f : Nat)) := by
  have hn := hW.n6
  unfold F_X1_roomOf
  obtain ⟨p, hp⟩ := fuelS 3 (by decide)
  rw [hasCar_I h hW (by omega) (by omega), i10_eq0, if_pos (by omega), taken_I h hW, ob_s, hp]
  have ha : (if iI (sgn f) ≤ 0 then ldi (M.1 3) 6 (iI (c : Int)) fun v8 => some (v8 - (1 : Int32)) else ldi (M.1 3) 6 (iI (c : Int)) fun v11 => ldi (M.1 4) 6 (iI (c : Int)) fun v14 => some (v11 + v14)) = some (iI (ahd G c f (P c))) := by
    rw [ldi_N (by omega) (by omega), ldi_N (by omega) (by omega), ldi_N (by omega) (by omega), h.vP hc, h.vG hc, iL_1, iI_sub, iI_add]
    cases f <;> rfl
  rw [ha, ob_s, iL_0, show iI 0 = iI ((0 : Nat) : Int) from rfl, room_loop h hW hc 3 p 0 (P c) (by omega) (by rw [updN_self]; exact hW.2.2.2.1) (by cases f <;> exact Nat.le_refl _), setd_encP hW hc, Nat.zero_add]
  rfl
theorem movP_ok (hW : PkW n w k z L P G lc lb) {c q : Nat} (hc : c < n) (hq : q < 4) : okb w L G (updN P c q) n = true ↔ q + G c ≤ 5 ∧ cm (L c) q (G c) &&& (ocm w L G P n &&& (cm (L c) (P c) (G c) ^^^ 2147483647)) = 0 := by
  have h4 : ∀ i, i < n → P i < 4 := fun i hi => hW.P4 hi
  have h1 := move_ok (u := enc P n) hW.2.1 hW.2.2.1 hW.vv.2 hc hq
  rw [okc_set h4 hq] at h1
  rw [h1]
  unfold oth
  rw [ocm_cong (p' := P) (L' := L) (G' := G) (fun i hi => ⟨dg_enc h4 i hi, rfl, rfl⟩), dg_enc h4 c hc]
theorem rmm_le {c : Nat} {f : Bool} : rmm w L G P n c f ≤ 3 := by
  have key : ∀ m a, (pth w L G n c f m a).length ≤ m := by
    intro m
    induction m with
    | zero => intro a; exact Nat.le_refl 0
    | succ m ih =>
      intro a
      rw [pth_s]
      cases stp w L G n c f a with
      | none => exact Nat.zero_le _
      | some b => exact Nat.succ_le_succ (ih b)
  exact key 3 _
end PK
