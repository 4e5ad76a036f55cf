/-! ===== cells counted, cars on their cells, rooms ===== -/
theorem pc_ct : ∀ (b x : Nat), pc b x = fb_ct (fun i => x.testBit i) b
  | 0, x => rfl
  | b + 1, x => by
    have h := fb_ct_split (fun i => x.testBit i) 1 b
    rw [Nat.add_comm 1 b] at h
    rw [h]
    have h2 : (fun k => x.testBit (1 + k)) = fun k => (x / 2).testBit k := funext fun k => by rw [Nat.add_comm 1 k, Nat.testBit_succ]
    show x % 2 + pc b (x / 2) = _
    have h3 : fb_ct (fun i => x.testBit i) 1 = x % 2 := by
      show 0 + (if x.testBit 0 = true then 1 else 0) = _
      rw [Nat.testBit_zero]
      by_cases e : x % 2 = 1
      · rw [if_pos (decide_eq_true e)]; omega
      · rw [if_neg (fun z => e (of_decide_eq_true z))]; omega
    rw [pc_ct b (x / 2), h3, h2]
theorem pc_cm0 : ((List.range 10).all fun l => (List.range 4).all fun p => (List.range 4).all fun g => !(decide (2 ≤ g) && decide (p + g ≤ 5)) || (pc 25 (cm l p g) == g)) = true := by decide +kernel
theorem pc_cm {l p g : Nat} (h1 : l < 10) (h2 : 2 ≤ g) (h3 : g < 4) (h4 : p + g ≤ 5) : pc 25 (cm l p g) = g := by
  have h := pc_cm0
  rw [List.all_eq_true] at h
  have ha := h l (List.mem_range.mpr h1)
  rw [List.all_eq_true] at ha
  have hb := ha p (List.mem_range.mpr (by omega))
  rw [List.all_eq_true] at hb
  have hc := hb g (List.mem_range.mpr h3)
  rw [decide_eq_true h2, decide_eq_true h4] at hc
  simpa using hc
theorem pc_or {a b : Nat} (h : ∀ x, ¬ (a.testBit x = true ∧ b.testBit x = true)) : pc 25 (a ||| b) = pc 25 a + pc 25 b := by
  rw [pc_ct, pc_ct, pc_ct, ← fb_ct_or (fun k _ => h k)]
  congr 1
  funext k
  exact Nat.testBit_or a b k
theorem pc_ocm {w : Nat} {L G P : Nat → Nat} : ∀ {n : Nat}, LGok L G n → okb w L G P n = true → pc 25 (ocm w L G P n) = pc 25 w + fb_sm G n
  | 0, _, _ => by rw [show ocm w L G P 0 = w from rfl, show fb_sm G 0 = 0 from rfl, Nat.add_zero]
  | n + 1, hL, h => by
    obtain ⟨h1, h2, h3⟩ := okb_s.mp h
    have hg := hL n (by omega)
    show pc 25 (ocm w L G P n ||| cm (L n) (P n) (G n)) = pc 25 w + (fb_sm G n + G n)
    rw [pc_or (and0_iff.mp h3), pc_ocm (fun i hi => hL i (by omega)) h1, pc_cm hg.1 hg.2.1 hg.2.2 h2]
    omega
theorem pc_flip {w x : Nat} (hx : x < 25) : pc 25 (w ^^^ 2 ^ x) + (if w.testBit x = true then 1 else 0) = pc 25 w + (if w.testBit x = true then 0 else 1) := by
  have h := fb_ct_upd (fun i => w.testBit i) (!(w.testBit x)) hx
  have h2 : (fun k => if k = x then !(w.testBit x) else w.testBit k) = fun k => (w ^^^ 2 ^ x).testBit k := funext fun k => by
    rw [fb_bit_flip]
    by_cases e : k = x
    · subst e; rw [if_pos rfl, decide_eq_true rfl]; cases w.testBit k <;> rfl
    · rw [if_neg e, decide_eq_false e]; cases w.testBit k <;> rfl
  rw [h2] at h
  rw [pc_ct, pc_ct]
  cases hb : w.testBit x with
  | true => rw [hb] at h; simpa using h
  | false => rw [hb] at h; simpa using h
section GE
variable {n w k : Nat} {z : Int} {L P G lc : Nat → Nat} {lb : Nat → Int}
theorem fcar_own (hW : PkW n w k z L P G lc lb) {c i : Nat} (hc : c < n) (hi : i < G c) : fcar L P G (cix (L c) (P c + i)) n 0 = (c : Int) := by
  have hg := hW.2.2.1 c hc
  have h5 := hW.in5 hc
  have hbit : (cm (L c) (P c) (G c)).testBit (cix (L c) (P c + i)) = true := (cm_bit hg.1 hg.2.1 hg.2.2 h5 _).mpr ⟨P c + i, by omega, by omega, by omega, rfl⟩
  have hok := (okb_iff.mp hW.2.2.2.1).2.2
  rcases fcar_rng (L := L) (P := P) (G := G) (x := cix (L c) (P c + i)) n 0 with ⟨-, h2⟩ | ⟨h1, h2, h3⟩
  · rw [h2 c (by omega) (by omega)] at hbit; cases hbit
  · obtain ⟨j, hj⟩ : ∃ j : Nat, fcar L P G (cix (L c) (P c + i)) n 0 = (j : Int) := ⟨(fcar L P G (cix (L c) (P c + i)) n 0).toNat, by omega⟩
    rw [hj, Int.toNat_natCast] at h3
    rw [hj]
    by_cases e : j < c
    · exact absurd ⟨h3, hbit⟩ (hok j c e hc _)
    · by_cases e2 : c < j
      · exact absurd ⟨hbit, h3⟩ (hok c j e2 (by omega) _)
      · omega
theorem pth_up (hLG : LGok L G n) {c : Nat} (hc : c < n) : ∀ (r a : Nat), VV w L G n a → (pth w L G n c true r a).length + dg a c + G c ≤ 5 ∧ (pth w L G n c true r a).length ≤ r
  | 0, a, h => by
    have h1 := okb_in (p := dg a) h.2 hc
    exact ⟨by show 0 + dg a c + G c ≤ 5; omega, Nat.le_refl _⟩
  | r + 1, a, h => by
    rw [pth_s]
    have h1 := okb_in (p := dg a) h.2 hc
    cases e : stp w L G n c true a with
    | none => exact ⟨by show 0 + dg a c + G c ≤ 5; omega, Nat.zero_le _⟩
    | some b =>
      have h2 := (stp_dg e).2
      rw [if_pos rfl] at h2
      have h3 := pth_up hLG hc r b (stp_ok h.1 hc e)
      show ((pth w L G n c true r b).length + 1) + dg a c + G c ≤ 5 ∧ (pth w L G n c true r b).length + 1 ≤ r + 1
      omega
theorem pth_dn {c : Nat} : ∀ (r a : Nat), (pth w L G n c false r a).length ≤ dg a c ∧ (pth w L G n c false r a).length ≤ r
  | 0, a => ⟨Nat.zero_le _, Nat.le_refl _⟩
  | r + 1, a => by
    rw [pth_s]
    cases e : stp w L G n c false a with
    | none => exact ⟨Nat.zero_le _, Nat.zero_le _⟩
    | some b =>
      have h2 := (stp_dg e).2
      rw [if_neg (by decide)] at h2
      have h3 := pth_dn (c := c) r b
      show (pth w L G n c false r b).length + 1 ≤ dg a c ∧ (pth w L G n c false r b).length + 1 ≤ r + 1
      omega
theorem rmm_up (hW : PkW n w k z L P G lc lb) {c : Nat} (hc : c < n) : rmm w L G P n c true + P c + G c ≤ 5 ∧ rmm w L G P n c true ≤ 3 := by
  have h := pth_up hW.2.2.1 hc 3 (enc P n) hW.vv
  rw [dg_enc (fun i hi => hW.P4 hi) c hc] at h
  exact h
theorem rmm_dn (hW : PkW n w k z L P G lc lb) {c : Nat} (hc : c < n) : rmm w L G P n c false ≤ P c ∧ rmm w L G P n c false ≤ 3 := by
  have h := pth_dn (w := w) (L := L) (G := G) (n := n) (c := c) 3 (enc P n)
  rw [dg_enc (fun i hi => hW.P4 hi) c hc] at h
  exact h
theorem rmm_3 (hW : PkW n w k z L P G lc lb) {c : Nat} (hc : c < n) (f : Bool) : rmm w L G P n c f ≤ 3 := by
  cases f
  · exact (rmm_dn hW hc).2
  · exact (rmm_up hW hc).2
theorem bs_len {c : Nat} {f : Bool} : ∀ (r m a v : Nat), m ≤ r → bsN w L G n c f m (some a) = some v → m ≤ (pth w L G n c f r a).length
  | r, 0, a, v, _, _ => Nat.zero_le _
  | 0, m + 1, a, v, h, _ => by omega
  | r + 1, m + 1, a, v, h, e => by
    have e' : bsN w L G n c f m (stp w L G n c f a) = some v := e
    rw [pth_s]
    cases e1 : stp w L G n c f a with
    | none => rw [e1, bsN_none] at e'; cases e'
    | some b =>
      rw [e1] at e'
      have := bs_len r m b v (by omega) e'
      show m + 1 ≤ (pth w L G n c f r b).length + 1
      omega
/-- behind a slide there is room for as many cells back -/
theorem rmm_back (hW : PkW n w k z L P G lc lb) {c q : Nat} {b : Int} (hc : c < n) (b1 : -3 ≤ b) (b2 : b ≤ 3) (h : canS w L G P n c b = true) (hq : (q : Int) = (P c : Int) + b) : b.natAbs ≤ rmm w L G (updN P c q) n c (!(decide (0 < b))) := by
  obtain ⟨q', q1, q2, q3, q4⟩ := slide_y hW hc b1 b2 h
  have hqq : q' = q := by omega
  subst hqq
  exact bs_len 3 b.natAbs _ _ (by omega) (bsN_back hc _ _ _ hW.vv q4)
theorem allR_len : allR w L G P n n = (nbC w L G n 3 (enc P n)).length := by
  unfold nbC
  rw [nbF_len]
  show fb_sm (fun c => rmm w L G P n c true + rmm w L G P n c false) n = _
  congr 1
  funext i
  rw [Nat.zero_add]
  rfl
theorem isR_isE (hW : PkW n w k z L P G lc lb) : isR n P G = isE G n (enc P n) := by
  unfold isR isE
  by_cases e : 0 < n
  · rw [dg_enc (fun i hi => hW.P4 hi) 0 e]
  · rw [decide_eq_false e]; rfl
end GE
/-! what the law's parks keep besides: few walls, the red car in a row, no stop, an empty buffer -/
def LX (s : Pst) : Prop := pc 25 s.2.1 ≤ 4 ∧ (0 < s.1 → s.2.2.2.2.1 0 < 5) ∧ s.2.2.2.1 = -1
def LW (S : Wst) : Prop := LX (sN S) ∧ (sF S = true → LX (sK S)) ∧ (∀ i, i < sC S → LX (sV S i)) ∧ sL S = 0
theorem savS_C {S : Wst} : sC (savS S) = if sC S < 5 then sC S + 1 else 5 := by
  unfold savS
  split <;> rfl
theorem LW.sav {S : Wst} (h : LW S) : LW (savS S) := by
  unfold savS
  by_cases e : sC S < 5
  · rw [if_pos e]
    refine ⟨h.1, h.2.1, fun i hi => ?_, h.2.2.2⟩
    show LX (if i = sC S then sN S else sV S i)
    by_cases e2 : i = sC S
    · rw [if_pos e2]; exact h.1
    · rw [if_neg e2]; exact h.2.2.1 i (by have : i < sC S + 1 := hi; omega)
  · rw [if_neg e]
    refine ⟨h.1, h.2.1, fun i hi => ?_, h.2.2.2⟩
    show LX (if i = 4 then sN S else sV S (i + 1))
    by_cases e2 : i = 4
    · rw [if_pos e2]; exact h.1
    · rw [if_neg e2]; exact h.2.2.1 (i + 1) (by have : i < 5 := hi; omega)
theorem LW.now {S : Wst} {s : Pst} (h : LW S) (hs : LX s) : LW (setN S s) := ⟨hs, h.2⟩
theorem LW.add {S : Wst} (h : LW S) {l p g : Nat} (e : tE (xn S) (xw S) (xL S) (xG S) (xP S) (l : Int) (p : Int) (g : Int) = 0) : LW (oAdd S l p g) := by
  refine h.sav.now ⟨h.1.1, fun _ => ?_, h.1.2.2⟩
  show updN (xL S) (xn S) l 0 < 5
  obtain ⟨e1, e2, e3, e4⟩ := tE_0 e
  by_cases e0 : xn S = 0
  · rw [e0, updN_s]
    refine Classical.byContradiction fun q => ?_
    unfold tE at e
    rw [if_neg (fun z => z e1), if_neg (fun z => z e2), if_pos (Or.inr (Or.inr ⟨e0, by omega⟩))] at e
    cases e
  · rw [updN_n (fun z => e0 z.symm)]
    exact h.1.2.1 (show 0 < xn S by omega)
theorem LW.drop {S : Wst} (h : LW S) : LW (oDrop S) := h.sav.now ⟨h.1.1, fun z => h.1.2.1 (by have : 0 < xn S - 1 := z; show 0 < xn S; omega), h.1.2.2⟩
theorem LW.wall {S : Wst} (h : LW S) {x : Nat} (hx : x < 25) (e : okT (xn S) (xw S) (xL S) (xP S) (xG S) x = true) : LW (oWall S x) := by
  refine h.sav.now ⟨?_, h.1.2.1, h.1.2.2⟩
  have h1 := pc_flip (w := xw S) hx
  have h2 : pc 25 (xw S) ≤ 4 := h.1.1
  show pc 25 (xw S ^^^ 2 ^ x) ≤ 4
  unfold okT at e
  rw [Bool.or_eq_true, Bool.and_eq_true, decide_eq_true_eq, decide_eq_true_eq] at e
  by_cases eb : (xw S).testBit x = true
  · rw [if_pos eb, if_pos eb] at h1; omega
  · rw [if_neg eb, if_neg eb] at h1
    rcases e with e | e
    · exact absurd e eb
    · omega
theorem LW.slide {S : Wst} (h : LW S) {i q : Nat} {b : Int} : LW (oSlide S i q b) := h.sav.now ⟨h.1.1, h.1.2.1, h.1.2.2⟩
theorem LW.take {S : Wst} (h : LW S) {q : Nat} : LW (oTake S q) := h.sav.now ⟨h.1.1, h.1.2.1, h.1.2.2⟩
theorem LW.rew {S : Wst} (h : LW S) : LW (oRew S) := h.sav.now ⟨h.1.1, h.1.2.1, h.1.2.2⟩
theorem LW.undo {S : Wst} (h : LW S) (e : 0 < sC S) : LW (oUndo S) := ⟨h.2.2.1 (sC S - 1) (by omega), h.2.1, fun i hi => h.2.2.1 i (by have : i < sC S - 1 := hi; omega), h.2.2.2⟩
theorem LW.keep {S : Wst} (h : LW S) : LW (oKeep S) := ⟨h.1, fun _ => h.1, h.2.2⟩
theorem LW.back {S : Wst} (h : LW S) (e : sF S = true) : LW (oBack S) := h.sav.now (h.2.1 e)
/-- a plan driven: what stays, the log, how far it still is -/
theorem PLn_eq {co : Nat → Int} (r : Nat) : ∀ (n w k : Nat) (z : Int) (L P G lc : Nat → Nat) (lb : Nat → Int) (s' : Pst), PLn co r (n, w, k, z, L, P, G, lc, lb) s' → s'.1 = n ∧ s'.2.1 = w ∧ s'.2.2.1 = k + r ∧ s'.2.2.2.1 = z ∧ s'.2.2.2.2.1 = L ∧ s'.2.2.2.2.2.2.1 = G ∧ co (enc s'.2.2.2.2.2.1 n) = co (enc P n) - (r : Int) ∧ ∀ j, j < k → s'.2.2.2.2.2.2.2.1 j = lc j ∧ s'.2.2.2.2.2.2.2.2 j = lb j := by
  induction r with
  | zero =>
    intro n w k z L P G lc lb s' h
    have h' : s' = (n, w, k, z, L, P, G, lc, lb) := h
    subst h'
    exact ⟨rfl, rfl, rfl, rfl, rfl, rfl, by show co (enc P n) = co (enc P n) - ((0 : Nat) : Int); omega, fun _ _ => ⟨rfl, rfl⟩⟩
  | succ r ih =>
    intro n w k z L P G lc lb s' h
    obtain ⟨x, q, -, -, -, -, -, h6, h7⟩ := h
    obtain ⟨a1, a2, a3, a4, a5, a6, a7, a8⟩ := ih _ _ _ _ _ _ _ _ _ _ h7
    refine ⟨a1, a2, by omega, a4, a5, a6, by omega, fun j hj => ?_⟩
    have := a8 j (by omega)
    rw [updN_n (by omega), updZ_n (by omega)] at this
    exact this
theorem LX_of {s s' : Pst} (h1 : s'.1 = s.1) (h2 : s'.2.1 = s.2.1) (h3 : s'.2.2.2.1 = s.2.2.2.1) (h4 : s'.2.2.2.2.1 = s.2.2.2.2.1) (h : LX s) : LX s' := by
  obtain ⟨a1, a2, a3⟩ := h
  exact ⟨by rw [h2]; exact a1, fun z => by rw [h4]; exact a2 (by rw [← h1]; exact z), by rw [h3]; exact a3⟩
