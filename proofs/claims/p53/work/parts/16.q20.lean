/-! ===== slides: possible ones, what they do, the next one of a plan ===== -/
noncomputable def iteC {α : Type} (p : Prop) (a b : α) : α := @ite α p (Classical.propDecidable p) a b
theorem iteC_y {α : Type} {p : Prop} {a b : α} (h : p) : iteC p a b = a := if_pos h
theorem iteC_n {α : Type} {p : Prop} {a b : α} (h : ¬ p) : iteC p a b = b := if_neg h
section SV
variable {n w k : Nat} {z : Int} {L P G lc : Nat → Nat} {lb : Nat → Int} {M : Wd}
def bsN (w : Nat) (L G : Nat → Nat) (n c : Nat) (f : Bool) : Nat → Option Nat → Option Nat
  | 0, o => o
  | _ + 1, none => none
  | m + 1, some a => bsN w L G n c f m (stp w L G n c f a)
theorem bsN_none {c : Nat} {f : Bool} : ∀ m, bsN w L G n c f m none = none
  | 0 => rfl
  | _ + 1 => rfl
theorem bsN_ok {c : Nat} {f : Bool} (hc : c < n) : ∀ (m a v : Nat), a < 4 ^ n → bsN w L G n c f (m + 1) (some a) = some v → VV w L G n v
  | 0, a, v, ha, h => stp_ok ha hc h
  | m + 1, a, v, ha, h => by
    have h' : bsN w L G n c f (m + 1) (stp w L G n c f a) = some v := h
    cases e : stp w L G n c f a with
    | none => rw [e, bsN_none] at h'; cases h'
    | some b =>
      rw [e] at h'
      exact bsN_ok hc m b v (stp_ok ha hc e).1 h'
theorem bslide_loop (h : EL w n L G M) {c : Nat} {f : Bool} (hc : c < n) {ρ : Type} {K : Int32 → Option ρ} : ∀ (r q : Nat) (o : Option Nat), r < 1000 → (∀ a, o = some a → a < 4 ^ n) →
    F_X0_behindSlide_L20 (iI (c : Int)) (iI (sgn f)) M K (q + 1 + r) (oI o) (iI (r : Int)) = K (oI (bsN w L G n c f r o))
  | 0, q, o, hr, ho => by
    show (if iI ((0 : Nat) : Int) ≤ 0 then K (oI o) else _) = K (oI (bsN w L G n c f 0 o))
    rw [if_pos (by decide)]; rfl
  | r + 1, q, o, hr, ho => by
    have hs := h.sz
    show (if iI ((r + 1 : Nat) : Int) ≤ 0 then K (oI o) else if oI o = (-1 : Int32) then K (oI o) else obind (F_X0_behindStep (oI o) (iI (c : Int)) (iI (sgn f)) M) fun v8 => bnd (iI ((r + 1 : Nat) : Int) + (-1 : Int32)) fun v11 => F_X0_behindSlide_L20 (iI (c : Int)) (iI (sgn f)) M K (q + 1 + r) v8 v11) = _
    rw [iL_0, if_le (by omega) (by omega) (by omega) (by omega), if_neg (by omega)]
    cases o with
    | none => exact if_pos rfl
    | some a =>
      have ha := ho a rfl
      show (if iI (a : Int) = (-1 : Int32) then _ else obind (F_X0_behindStep (iI (a : Int)) (iI (c : Int)) (iI (sgn f)) M) _) = _
      rw [if_neg (ne_m1 (by omega)), behindStep_I h ha hc, ob_s, bnd_v, iL_m1, iI_add, show ((r + 1 : Nat) : Int) + -1 = (r : Int) by omega]
      exact bslide_loop h hc r q _ (by omega) (fun b hb => (stp_ok ha hc hb).1)
def bsB (w : Nat) (L G : Nat → Nat) (n c : Nat) (b : Int) (a : Nat) : Option Nat := bsN w L G n c (decide (0 < b)) b.natAbs (some a)
theorem bslide_I (h : EL w n L G M) {c a : Nat} {b : Int} (hc : c < n) (ha : a < 4 ^ n) (b1 : -3 ≤ b) (b2 : b ≤ 3) : F_X0_behindSlide (iI (a : Int)) (iI (c : Int)) (iI b) M = some (oI (bsB w L G n c b a)) := by
  unfold F_X0_behindSlide
  obtain ⟨p, hp⟩ := fuelS b.natAbs (by omega)
  have es : (if iI b ≤ 0 then (-1 : Int32) else (1 : Int32)) = iI (sgn (decide (0 < b))) := by
    rw [iL_0, if_le (by omega) (by omega) (by omega) (by omega)]
    by_cases e : b ≤ 0
    · rw [if_pos e, decide_eq_false (by omega)]; rfl
    · rw [if_neg e, decide_eq_true (by omega)]; rfl
  rw [es, abs_I b1 b2, bnd_v, bnd_v, hp]
  exact bslide_loop h hc (K := fun v => some v) b.natAbs p (some a) (by omega) (fun x hx => by cases hx; exact ha)
/-- by how many cells: along the path -/
theorem bsN_room (hW : PkW n w k z L P G lc lb) {c : Nat} {f : Bool} (hc : c < n) : ∀ (m r p : Nat), m ≤ r → okb w L G (updN P c p) n = true → (if f = true then P c ≤ p else p ≤ P c) →
    (m ≤ (pth w L G n c f r (setd (enc P n) c p)).length → ∃ p' : Nat, (p' : Int) = (p : Int) + sgn f * (m : Int) ∧ okb w L G (updN P c p') n = true ∧ bsN w L G n c f m (some (setd (enc P n) c p)) = some (setd (enc P n) c p')) ∧
    (¬ m ≤ (pth w L G n c f r (setd (enc P n) c p)).length → bsN w L G n c f m (some (setd (enc P n) c p)) = none)
  | 0, r, p, hm, hp, hf => by
    refine ⟨fun _ => ⟨p, ?_, hp, rfl⟩, fun h => absurd (Nat.zero_le _) h⟩
    rw [show ((0 : Nat) : Int) = 0 from rfl, Int.mul_zero, Int.add_zero]
  | m + 1, 0, p, hm, hp, hf => by omega
  | m + 1, r + 1, p, hm, hp, hf => by
    obtain ⟨s1, s2⟩ := stp_room hW hc hp hf
    by_cases e : 0 ≤ ahd G c f p ∧ ahd G c f p < 5 ∧ (ocm w L G P n).testBit (cix (L c) (ahd G c f p).toNat) = false
    · obtain ⟨p', p1, p2, p3, p4⟩ := s1 e
      have hf2 : (if f = true then P c ≤ p' else p' ≤ P c) := by
        cases f with
        | true => show P c ≤ p'; have h1 : P c ≤ p := hf; have : (p : Int) + 1 = p' := p2; omega
        | false => show p' ≤ P c; have h1 : p ≤ P c := hf; have : (p : Int) + (-1) = p' := p2; omega
      obtain ⟨i1, i2⟩ := bsN_room hW hc m r p' (by omega) p3 hf2
      have el : (pth w L G n c f (r + 1) (setd (enc P n) c p)).length = (pth w L G n c f r (setd (enc P n) c p')).length + 1 := by rw [pth_s, p4]; rfl
      have eb : bsN w L G n c f (m + 1) (some (setd (enc P n) c p)) = bsN w L G n c f m (some (setd (enc P n) c p')) := by
        show bsN w L G n c f m (stp w L G n c f (setd (enc P n) c p)) = _
        rw [p4]
      rw [el, eb]
      refine ⟨fun h => ?_, fun h => i2 (by omega)⟩
      obtain ⟨p'', q1, q2, q3⟩ := i1 (by omega)
      refine ⟨p'', ?_, q2, q3⟩
      rw [q1, ← p2, show ((m + 1 : Nat) : Int) = (m : Int) + 1 from rfl, Int.mul_add, Int.mul_one]
      omega
    · have e2 := s2 e
      have el : (pth w L G n c f (r + 1) (setd (enc P n) c p)).length = 0 := by rw [pth_s, e2]; rfl
      have eb : bsN w L G n c f (m + 1) (some (setd (enc P n) c p)) = none := by
        show bsN w L G n c f m (stp w L G n c f (setd (enc P n) c p)) = _
        rw [e2, bsN_none]
      rw [el, eb]
      exact ⟨fun h => by omega, fun _ => rfl⟩
def canS (w : Nat) (L G P : Nat → Nat) (n c : Nat) (b : Int) : Bool := decide (b.natAbs ≤ rmm w L G P n c (decide (0 < b)))
theorem enc_set : ∀ {n c q : Nat} {P : Nat → Nat}, c < n → (∀ i, i < n → P i < 4) → q < 4 → setd (enc P n) c q = enc (updN P c q) n := by
  intro n c q P hc h4 hq
  have h4' : ∀ i, i < n → updN P c q i < 4 := fun i hi => by
    unfold updN
    split
    · exact hq
    · exact h4 i hi
  have key : ∀ m a b, a < 4 ^ m → b < 4 ^ m → (∀ i, i < m → dg a i = dg b i) → a = b := by
    intro m
    induction m with
    | zero => intro a b ha hb _; rw [Nat.pow_zero] at ha hb; omega
    | succ m ih =>
      intro a b ha hb hd
      rw [Nat.pow_succ] at ha hb
      have h0 := hd 0 (by omega)
      rw [dg_0, dg_0] at h0
      have h1 := ih (a / 4) (b / 4) (by omega) (by omega) (fun i hi => by
        have := hd (i + 1) (by omega)
        rwa [dg_s, dg_s] at this)
      omega
  refine key n _ _ (setd_lt n c _ _ (enc_lt h4) hc hq) (enc_lt h4') (fun i hi => ?_)
  rw [dg_setd _ _ _ _ hq, dg_enc h4' i hi, dg_enc h4 i hi]
  rfl
theorem sgn_abs {b : Int} : sgn (decide (0 < b)) * (b.natAbs : Int) = b := by
  by_cases e : 0 < b
  · rw [decide_eq_true e]
    show (1 : Int) * (b.natAbs : Int) = b
    omega
  · rw [decide_eq_false e]
    show (-1 : Int) * (b.natAbs : Int) = b
    omega
/-- a slide that is possible -/
theorem slide_y (hW : PkW n w k z L P G lc lb) {c : Nat} {b : Int} (hc : c < n) (b1 : -3 ≤ b) (b2 : b ≤ 3) (h : canS w L G P n c b = true) :
    ∃ q : Nat, (q : Int) = (P c : Int) + b ∧ q < 4 ∧ okb w L G (updN P c q) n = true ∧ bsB w L G n c b (enc P n) = some (enc (updN P c q) n) := by
  have h' := of_decide_eq_true h
  obtain ⟨i1, -⟩ := bsN_room hW hc (f := decide (0 < b)) b.natAbs 3 (P c) (by omega) (by rw [updN_self]; exact hW.2.2.2.1) (by cases decide (0 < b) <;> exact Nat.le_refl _)
  rw [setd_encP hW hc] at i1
  obtain ⟨q, q1, q2, q3⟩ := i1 h'
  have hq : (q : Int) = (P c : Int) + b := by
    rw [q1, sgn_abs]
  have h5 := okb_in q2 hc
  rw [updN_s] at h5
  have hg := hW.2.2.1 c hc
  refine ⟨q, hq, by omega, q2, ?_⟩
  rw [← enc_set hc (fun i hi => hW.P4 hi) (show q < 4 by omega)]
  exact q3
theorem slide_n (hW : PkW n w k z L P G lc lb) {c : Nat} {b : Int} (hc : c < n) (b1 : -3 ≤ b) (b2 : b ≤ 3) (h : canS w L G P n c b = false) : bsB w L G n c b (enc P n) = none := by
  have h' := of_decide_eq_false h
  obtain ⟨-, i2⟩ := bsN_room hW hc (f := decide (0 < b)) b.natAbs 3 (P c) (by omega) (by rw [updN_self]; exact hW.2.2.2.1) (by cases decide (0 < b) <;> exact Nat.le_refl _)
  rw [setd_encP hW hc] at i2
  exact i2 h'
/-! slides lead back as they lead forth -/
theorem stp_back {c a b : Nat} {f : Bool} (ha : okc w L G n a = true) (h : stp w L G n c f a = some b) : stp w L G n c (!f) b = some a := by
  have hd := dg_lt a c
  cases f with
  | true =>
    rw [stp_t] at h
    by_cases e : dg a c + 1 < 4 ∧ okc w L G n (a + 4 ^ c) = true
    · rw [if_pos e] at h
      cases h
      show stp w L G n c false (a + 4 ^ c) = some a
      have hdb : dg (a + 4 ^ c) c = dg a c + 1 := by rw [stp_up, dg_setd _ _ _ _ e.1, if_pos rfl]
      rw [stp_f, hdb, Nat.add_sub_cancel, if_pos ⟨by omega, ha⟩]
    · rw [if_neg e] at h; cases h
  | false =>
    rw [stp_f] at h
    by_cases e : 1 ≤ dg a c ∧ okc w L G n (a - 4 ^ c) = true
    · rw [if_pos e] at h
      cases h
      show stp w L G n c true (a - 4 ^ c) = some a
      obtain ⟨e1, e2⟩ := stp_down e.1
      have hdb : dg (a - 4 ^ c) c = dg a c - 1 := by rw [e1, dg_setd _ _ _ _ (by omega), if_pos rfl]
      have e3 : a - 4 ^ c + 4 ^ c = a := by omega
      rw [stp_t, hdb, e3, if_pos ⟨by omega, ha⟩]
    · rw [if_neg e] at h; cases h
theorem bsN_snoc {c : Nat} {f : Bool} : ∀ (m a b v : Nat), bsN w L G n c f m (some a) = some b → stp w L G n c f b = some v → bsN w L G n c f (m + 1) (some a) = some v
  | 0, a, b, v, h, h2 => by
    cases h
    exact h2
  | m + 1, a, b, v, h, h2 => by
    have h' : bsN w L G n c f m (stp w L G n c f a) = some b := h
    show bsN w L G n c f (m + 1) (stp w L G n c f a) = some v
    cases e : stp w L G n c f a with
    | none => rw [e, bsN_none] at h'; cases h'
    | some x =>
      rw [e] at h'
      exact bsN_snoc m x b v h' h2
theorem bsN_back {c : Nat} {f : Bool} (hc : c < n) : ∀ (m a v : Nat), VV w L G n a → bsN w L G n c f m (some a) = some v → bsN w L G n c (!f) m (some v) = some a
  | 0, a, v, _, h => by cases h; rfl
  | m + 1, a, v, ha, h => by
    have h' : bsN w L G n c f m (stp w L G n c f a) = some v := h
    cases e : stp w L G n c f a with
    | none => rw [e, bsN_none] at h'; cases h'
    | some x =>
      rw [e] at h'
      have ih := bsN_back hc m x v (stp_ok ha.1 hc e) h'
      exact bsN_snoc m v x a ih (stp_back ha.2 e)
theorem pth_bs {c : Nat} {f : Bool} : ∀ (r a v : Nat), v ∈ pth w L G n c f r a → ∃ m, 1 ≤ m ∧ m ≤ r ∧ bsN w L G n c f m (some a) = some v
  | 0, a, v, h => nomatch h
  | r + 1, a, v, h => by
    rw [pth_s] at h
    cases e : stp w L G n c f a with
    | none => rw [e] at h; exact nomatch h
    | some b =>
      rw [e] at h
      rcases List.mem_cons.mp h with rfl | h
      · exact ⟨1, by omega, by omega, by show stp w L G n c f a = some v; exact e⟩
      · obtain ⟨m, m1, m2, m3⟩ := pth_bs r b v h
        refine ⟨m + 1, by omega, by omega, ?_⟩
        show bsN w L G n c f m (stp w L G n c f a) = some v
        rw [e]; exact m3
/-- the next slides: the x-th of the cars' changes leads one slide nearer -/
def NXp (w : Nat) (L G : Nat → Nat) (n : Nat) (co : Nat → Int) (a x : Nat) : Prop := x % 7 ≠ 3 ∧ ∃ v, bsB w L G n (x / 7) (((x % 7 : Nat) : Int) - 3) a = some v ∧ co v = co a - 1
theorem NX_ex {S : SS} {a : Nat} (h : SrE w L G n S) (ha : VV w L G n a) (hp : 0 < S.1 a) : ∃ x, x < 7 * n ∧ NXp w L G n S.1 a x := by
  obtain ⟨d, h1, h2, h3, h4, h5, h6, h7, h8⟩ := h
  obtain ⟨u, u1, u2, u3⟩ := h6 a (h1.mem.mpr (by omega)) hp
  unfold nbC at u2
  obtain ⟨c, f, c1, c2, c3⟩ := nbF_mem.mp u2
  have hc : c < n := by omega
  obtain ⟨m, m1, m2, m3⟩ := pth_bs 3 u a c3
  have hb := bsN_back hc m u a (h1.2.1 u u1).1 m3
  have hsx : ∀ x : Nat, x / 7 = c → (((x % 7 : Nat) : Int) - 3) = sgn (!f) * (m : Int) → x % 7 ≠ 3 → NXp w L G n S.1 a x := fun x e1 e2 e3 => by
    refine ⟨e3, u, ?_, by omega⟩
    rw [e1, e2]
    unfold bsB
    cases f with
    | true =>
      show bsN w L G n c (decide (0 < (-1 : Int) * (m : Int))) ((-1 : Int) * (m : Int)).natAbs (some a) = some u
      rw [decide_eq_false (by omega), show ((-1 : Int) * (m : Int)).natAbs = m by omega]
      exact hb
    | false =>
      show bsN w L G n c (decide (0 < (1 : Int) * (m : Int))) ((1 : Int) * (m : Int)).natAbs (some a) = some u
      rw [decide_eq_true (by omega), show ((1 : Int) * (m : Int)).natAbs = m by omega]
      exact hb
  cases f with
  | true =>
    refine ⟨7 * c + (3 - m), by omega, hsx _ (by omega) ?_ (by omega)⟩
    show _ = (-1 : Int) * (m : Int)
    omega
  | false =>
    refine ⟨7 * c + (3 + m), by omega, hsx _ (by omega) ?_ (by omega)⟩
    show _ = (1 : Int) * (m : Int)
    omega
/-- the first of them -/
def NX1 (w : Nat) (L G : Nat → Nat) (n : Nat) (co : Nat → Int) (a x : Nat) : Prop := x < 7 * n ∧ NXp w L G n co a x ∧ ∀ y, y < x → ¬ NXp w L G n co a y
theorem NX1_ex {S : SS} {a : Nat} (h : SrE w L G n S) (ha : VV w L G n a) (hp : 0 < S.1 a) : ∃ x, NX1 w L G n S.1 a x := by
  obtain ⟨x, x1, x2⟩ := NX_ex h ha hp
  have hd : DecidablePred (NXp w L G n S.1 a) := fun _ => Classical.propDecidable _
  obtain ⟨y, y1, y2, y3⟩ := fb_first (p := NXp w L G n S.1 a) ⟨x, x1, x2⟩
  exact ⟨y, y1, y2, y3⟩
/-! the class finds it -/
theorem NX_t {S : SS} (h : EL w n L G M) (h2 : SE n M S) (hS : SB (VV w L G n) S) (hB : CB S) {a x : Nat} (hx : x < 7 * n) (ha : a < 4 ^ n) (hp : 0 < S.1 a) (h3 : x % 7 ≠ 3) {α : Type} {y1 y2 : Option α} :
    (obind (F_X0_behindSlide (iI (a : Int)) (iI ((x / 7 : Nat) : Int)) (iI (((x % 7 : Nat) : Int) - 3)) M) fun v10 => obind (F_X0_costOf v10 M) fun v13 => if v13 = (iI (S.1 a) - (1 : Int32)) then y1 else y2) = iteC (NXp w L G n S.1 a x) y1 y2 := by
  have hs := h.sz
  have hn := h.1.1
  have hhi := cb_le hB hS (fun b hb => hb.1) hn
  have hha := hhi a
  have hc : x / 7 < n := by omega
  rw [bslide_I h hc ha (by omega) (by omega), ob_s, iL_1, iI_sub]
  unfold NXp
  cases e : bsB w L G n (x / 7) (((x % 7 : Nat) : Int) - 3) a with
  | none =>
    show (obind (F_X0_costOf (iI (-1)) M) _) = _
    rw [costOf_m1, ob_s, if_eq (by omega) (by omega) (by omega) (by omega), if_neg (by omega), iteC_n]
    rintro ⟨-, v, hv, -⟩
    cases hv
  | some v =>
    have hv : VV w L G n v := by
      unfold bsB at e
      obtain ⟨m, hm⟩ : ∃ m, (((x % 7 : Nat) : Int) - 3).natAbs = m + 1 := ⟨(((x % 7 : Nat) : Int) - 3).natAbs - 1, by omega⟩
      rw [hm] at e
      exact bsN_ok hc m a v ha e
    have h1 := hS.lo v
    have h2' := hhi v
    show (obind (F_X0_costOf (iI (v : Int)) M) _) = _
    rw [costOf_I h h2.1 hv.1, if_pos hv.2, ob_s, if_eq (by omega) (by omega) (by omega) (by omega)]
    by_cases e2 : S.1 v = S.1 a - 1
    · rw [if_pos e2, iteC_y ⟨h3, v, rfl, e2⟩]
    · rw [if_neg e2, iteC_n]
      rintro ⟨-, u, hu, hu2⟩
      cases hu
      exact e2 hu2
theorem next_in {S : SS} (h : EL w n L G M) (h2 : SE n M S) (hS : SB (VV w L G n) S) (hB : CB S) {a c : Nat} (hc : c < n) (ha : a < 4 ^ n) (hp : 0 < S.1 a) {ρ : Type} {K1 : Int32 → Option ρ} {K2 : Option ρ} : ∀ (r q j : Nat), j + r = 7 →
    (∃ i, j ≤ i ∧ i < 7 ∧ NXp w L G n S.1 a (7 * c + i) ∧ (∀ y, j ≤ y → y < i → ¬ NXp w L G n S.1 a (7 * c + y)) ∧ F_X0_findNextSlide_L24 (iI (a : Int)) (iI (S.1 a)) (iI (c : Int)) M K1 K2 (q + 1 + r) (iI ((j : Int) - 3)) = K1 (iI ((i : Int) - 3))) ∨
    ((∀ y, j ≤ y → y < 7 → ¬ NXp w L G n S.1 a (7 * c + y)) ∧ F_X0_findNextSlide_L24 (iI (a : Int)) (iI (S.1 a)) (iI (c : Int)) M K1 K2 (q + 1 + r) (iI ((j : Int) - 3)) = K2)
  | 0, q, j, hr => by
    right
    refine ⟨fun y y1 y2 => by omega, ?_⟩
    show (if (3 : Int32) < iI ((j : Int) - 3) then K2 else _) = K2
    rw [show (3 : Int32) = iI 3 from rfl, if_lt (by omega) (by omega) (by omega) (by omega), if_pos (by omega)]
  | r + 1, q, j, hr => by
    have ih := next_in h h2 hS hB hc ha hp (K1 := K1) (K2 := K2) r q (j + 1) (by omega)
    have hj : ((j : Int) - 3) + 1 = ((j + 1 : Nat) : Int) - 3 := by omega
    have hstep : F_X0_findNextSlide_L24 (iI (a : Int)) (iI (S.1 a)) (iI (c : Int)) M K1 K2 (q + 1 + (r + 1)) (iI ((j : Int) - 3)) = if (j : Int) - 3 = 0 then F_X0_findNextSlide_L24 (iI (a : Int)) (iI (S.1 a)) (iI (c : Int)) M K1 K2 (q + 1 + r) (iI (((j + 1 : Nat) : Int) - 3)) else obind (F_X0_behindSlide (iI (a : Int)) (iI (c : Int)) (iI ((j : Int) - 3)) M) fun v10 => obind (F_X0_costOf v10 M) fun v13 => if v13 = (iI (S.1 a) - (1 : Int32)) then K1 (iI ((j : Int) - 3)) else F_X0_findNextSlide_L24 (iI (a : Int)) (iI (S.1 a)) (iI (c : Int)) M K1 K2 (q + 1 + r) (iI (((j + 1 : Nat) : Int) - 3)) := by
      show (if (3 : Int32) < iI ((j : Int) - 3) then K2 else if iI ((j : Int) - 3) = 0 then bnd (iI ((j : Int) - 3) + (1 : Int32)) fun v8 => F_X0_findNextSlide_L24 (iI (a : Int)) (iI (S.1 a)) (iI (c : Int)) M K1 K2 (q + 1 + r) v8 else obind (F_X0_behindSlide (iI (a : Int)) (iI (c : Int)) (iI ((j : Int) - 3)) M) fun v10 => obind (F_X0_costOf v10 M) fun v13 => if v13 = (iI (S.1 a) - (1 : Int32)) then K1 (iI ((j : Int) - 3)) else bnd (iI ((j : Int) - 3) + (1 : Int32)) fun v17 => F_X0_findNextSlide_L24 (iI (a : Int)) (iI (S.1 a)) (iI (c : Int)) M K1 K2 (q + 1 + r) v17) = _
      rw [show (3 : Int32) = iI 3 from rfl, if_lt (by omega) (by omega) (by omega) (by omega), if_neg (by omega), iL_0, if_eq (by omega) (by omega) (by omega) (by omega), bnd_v, iL_1, iI_add, hj]
    by_cases e3 : j = 3
    · have hno : ¬ NXp w L G n S.1 a (7 * c + j) := fun z => z.1 (by omega)
      rw [hstep, if_pos (by omega)]
      rcases ih with ⟨i, i1, i2, i3, i4, i5⟩ | ⟨i1, i2⟩
      · left
        refine ⟨i, by omega, i2, i3, fun y y1 y2 => ?_, i5⟩
        by_cases ey : y = j
        · rw [ey]; exact hno
        · exact i4 y (by omega) y2
      · right
        refine ⟨fun y y1 y2 => ?_, i2⟩
        by_cases ey : y = j
        · rw [ey]; exact hno
        · exact i1 y (by omega) y2
    · have ht := NX_t h h2 hS hB (x := 7 * c + j) (by omega) ha hp (by omega) (y1 := K1 (iI ((j : Int) - 3))) (y2 := F_X0_findNextSlide_L24 (iI (a : Int)) (iI (S.1 a)) (iI (c : Int)) M K1 K2 (q + 1 + r) (iI (((j + 1 : Nat) : Int) - 3)))
      rw [show (7 * c + j) / 7 = c by omega, show (7 * c + j) % 7 = j by omega] at ht
      rw [hstep, if_neg (by omega), ht]
      by_cases e : NXp w L G n S.1 a (7 * c + j)
      · left
        exact ⟨j, Nat.le_refl _, by omega, e, fun y y1 y2 => by omega, iteC_y e⟩
      · rw [iteC_n e]
        rcases ih with ⟨i, i1, i2, i3, i4, i5⟩ | ⟨i1, i2⟩
        · left
          refine ⟨i, by omega, i2, i3, fun y y1 y2 => ?_, i5⟩
          by_cases ey : y = j
          · rw [ey]; exact e
          · exact i4 y (by omega) y2
        · right
          refine ⟨fun y y1 y2 => ?_, i2⟩
          by_cases ey : y = j
          · rw [ey]; exact e
          · exact i1 y (by omega) y2
theorem next_out {S : SS} (h : EL w n L G M) (h2 : SE n M S) (hS : SB (VV w L G n) S) (hB : CB S) {a x : Nat} (ha : a < 4 ^ n) (hp : 0 < S.1 a) (hx : NX1 w L G n S.1 a x) {ρ : Type} {K1 : Int32 → Int32 → Option ρ} {K2 : Option ρ} : ∀ (r q c : Nat), c + r = n → (∀ y, y < 7 * c → ¬ NXp w L G n S.1 a y) →
    F_X0_findNextSlide_L8 (iI (a : Int)) (iI (S.1 a)) M K1 K2 (q + 1 + r) (iI (c : Int)) = K1 (iI ((x / 7 : Nat) : Int)) (iI (((x % 7 : Nat) : Int) - 3))
  | 0, q, c, hr, hno => absurd hx.2.1 (hno x (by have := hx.1; omega))
  | r + 1, q, c, hr, hno => by
    have hn := h.1.1
    have hhi := cb_le hB hS (fun b hb => hb.1) hn a
    obtain ⟨p, hp7⟩ := fuelS 7 (by decide)
    show (if (M.1 44 6) ≤ iI (c : Int) then K2 else if iI (S.1 a) ≤ 0 then K2 else F_X0_findNextSlide_L24 (iI (a : Int)) (iI (S.1 a)) (iI (c : Int)) M (fun v19 => K1 (iI (c : Int)) v19) (bnd (iI (c : Int) + (1 : Int32)) fun v20 => F_X0_findNextSlide_L8 (iI (a : Int)) (iI (S.1 a)) M K1 K2 (q + 1 + r) v20) fuelN (-3 : Int32)) = _
    rw [h.2.1, if_le (by omega) (by omega) (by omega) (by omega), if_neg (by omega), iL_0, if_le (by omega) (by omega) (by omega) (by omega), if_neg (by omega), hp7, iL_m3]
    rcases next_in h h2 hS hB (show c < n by omega) ha hp (K1 := fun v19 => K1 (iI (c : Int)) v19) (K2 := bnd (iI (c : Int) + (1 : Int32)) fun v20 => F_X0_findNextSlide_L8 (iI (a : Int)) (iI (S.1 a)) M K1 K2 (q + 1 + r) v20) 7 p 0 (by omega) with ⟨i, i1, i2, i3, i4, i5⟩ | ⟨i1, i2⟩
    · have ex : x = 7 * c + i := fb_first_one hx.2.1 hx.2.2 i3 (fun y hy => by
        by_cases ey : y < 7 * c
        · exact hno y ey
        · have := i4 (y - 7 * c) (by omega) (by omega)
          rwa [show 7 * c + (y - 7 * c) = y by omega] at this)
      refine Eq.trans i5 ?_
      rw [ex, show (7 * c + i) / 7 = c by omega, show (7 * c + i) % 7 = i by omega]
    · refine Eq.trans i2 ?_
      rw [bnd_v, s1_I]
      exact next_out h h2 hS hB ha hp hx r q (c + 1) (by omega) (fun y hy => by
        by_cases ey : y < 7 * c
        · exact hno y ey
        · have := i1 (y - 7 * c) (by omega) (by omega)
          rwa [show 7 * c + (y - 7 * c) = y by omega] at this)
theorem cnext_y {S : SS} (h : EL w n L G M) (h2 : SE n M S) (hE : SrE w L G n S) (hB : CB S) {a x : Nat} (ha : VV w L G n a) (hp : 0 < S.1 a) (hx : NX1 w L G n S.1 a x) :
    F_X0_findNextSlide (iI (a : Int)) M = some ((1 : Int32), (upI (upI M 44 10 (iI ((x / 7 : Nat) : Int))) 44 11 (iI (((x % 7 : Nat) : Int) - 3)))) := by
  obtain ⟨d, hI⟩ := id hE
  unfold F_X0_findNextSlide
  obtain ⟨p, hp7⟩ := fuelS n (by have := h.1.1; omega)
  rw [costOf_I h h2.1 ha.1, if_pos ha.2, ob_s, hp7]
  exact next_out h h2 hI.1 hB ha.1 hp hx (K1 := fun v22 v23 => some ((1 : Int32), (upI (upI M 44 10 v22) 44 11 v23))) (K2 := some ((0 : Int32), M)) n p 0 (by omega) (fun y hy => by omega)
theorem cnext_n {S : SS} (h : EL w n L G M) (h2 : SE n M S) (hE : SrE w L G n S) {a : Nat} (ha : VV w L G n a) (hp : ¬ 0 < S.1 a) : F_X0_findNextSlide (iI (a : Int)) M = some ((0 : Int32), M) := by
  obtain ⟨d, hI⟩ := id hE
  have hn := h.1.1
  have hlo := hI.1.lo a
  unfold F_X0_findNextSlide
  obtain ⟨p, hp7⟩ := fuelS 0 (by decide)
  rw [costOf_I h h2.1 ha.1, if_pos ha.2, ob_s, hp7]
  show (if (M.1 44 6) ≤ (0 : Int32) then some ((0 : Int32), M) else if iI (S.1 a) ≤ 0 then some ((0 : Int32), M) else _) = _
  rw [iL_0, if_le (a := S.1 a) (by omega) (by omega) (by omega) (by omega), if_pos (show S.1 a ≤ 0 by omega), ite_self]
end SV
