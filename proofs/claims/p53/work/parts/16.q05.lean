/-! ===== the class's explorer: steps, searches ===== -/
def sgn (f : Bool) : Int := if f = true then 1 else -1
def oI (o : Option Nat) : Int32 := match o with
  | none => iI (-1)
  | some b => iI (b : Int)
/-- the explorer's table for walls w and n cars -/
def EL (w n : Nat) (L G : Nat → Nat) (M : Wd) : Prop :=
  (n ≤ 6 ∧ w < 33554432 ∧ LGok L G n) ∧ M.1 44 6 = iI (n : Int) ∧ M.1 44 7 = iI ((4 ^ n : Nat) : Int) ∧ (∀ i, i < n → M.1 45 i = iI (G i : Int)) ∧
  ∀ a, a < 4 ^ n → M.1 46 a = if okc w L G n a = true then iI ((ocm w L G (dg a) n : Nat) : Int) else iI (-1)
/-- what a search changes -/
def frB (M M' : Wd) : Prop := (∀ c, c ≠ 47 → c ≠ 48 → c ≠ 44 → M'.1 c = M.1 c) ∧ (∀ j, j ≠ 9 → M'.1 44 j = M.1 44 j) ∧ M'.2 = M.2
theorem frB.rf (M : Wd) : frB M M := ⟨fun _ _ _ _ => rfl, fun _ _ => rfl, rfl⟩
theorem frB.tr {M N O : Wd} (h : frB M N) (h2 : frB N O) : frB M O := ⟨fun c a b d => by rw [h2.1 c a b d, h.1 c a b d], fun j hj => by rw [h2.2.1 j hj, h.2.1 j hj], by rw [h2.2.2, h.2.2]⟩
theorem EL.fr {w n : Nat} {L G : Nat → Nat} {M M' : Wd} (h : EL w n L G M) (hf : frB M M') : EL w n L G M' := by
  obtain ⟨h0, h1, h2, h3, h4⟩ := h
  refine ⟨h0, by rw [hf.2.1 6 (by decide)]; exact h1, by rw [hf.2.1 7 (by decide)]; exact h2, fun i hi => by rw [hf.1 45 (by decide) (by decide) (by decide)]; exact h3 i hi, fun a ha => by rw [hf.1 46 (by decide) (by decide) (by decide)]; exact h4 a ha⟩
theorem okc_ocm {w n a : Nat} {L G : Nat → Nat} (hw : w < 33554432) (hLG : LGok L G n) (h : okc w L G n a = true) : ocm w L G (dg a) n < 33554432 := ocm_lt hw hLG fun _ hi => okb_in h hi
section XE
variable {w n : Nat} {L G : Nat → Nat} {M : Wd}
theorem EL.sz (h : EL w n L G M) : 4 ^ n ≤ 4096 := pow4_le h.1.1
theorem tk_m1 (h : EL w n L G M) {a : Nat} (ha : a < 4 ^ n) : (M.1 46 a = (-1 : Int32)) = (okc w L G n a = false) := by
  rw [h.2.2.2.2 a ha]
  cases e : okc w L G n a with
  | true =>
    have := okc_ocm h.1.2.1 h.1.2.2 e
    rw [if_pos rfl, iL_m1, iI_eq (by omega) (by omega) (by omega) (by omega)]
    simp only [eq_iff_iff]
    constructor
    · intro q; omega
    · intro q; cases q
  | false => simp [iL_m1]
theorem exists_I (h : EL w n L G M) {a : Nat} (ha : a < 4 ^ n) : F_X0_exists (iI (a : Int)) M = some (if okc w L G n a = true then iI 1 else iI 0) := by
  have hs := h.sz
  unfold F_X0_exists
  rw [h.2.2.1, iL_0, if_lt (by omega) (by omega) (by omega) (by omega), if_neg (by omega), if_le (by omega) (by omega) (by omega) (by omega), if_neg (by omega), ldi_N (by omega) (by omega)]
  simp only [tk_m1 h ha]
  cases okc w L G n a <;> rfl
theorem exists_m1 : F_X0_exists (iI (-1)) M = some (iI 0) := by
  unfold F_X0_exists
  rw [iL_0, if_lt (by omega) (by omega) (by omega) (by omega), if_pos (by omega)]
/-- the costs in the class's cells -/
def SE (n : Nat) (M : Wd) (S : SS) : Prop := (∀ a, a < 4 ^ n → M.1 47 a = iI (S.1 a)) ∧ (∀ j, j < S.2.length → M.1 48 j = iI (S.2.getD j 0 : Nat)) ∧ M.1 44 9 = iI (S.2.length : Nat)
theorem i10_eq0 {c : Prop} [Decidable c] {α : Type} {x y : α} : (if (if c then iI 1 else iI 0) = 0 then x else y) = if c then y else x := by
  by_cases h : c
  · rw [if_pos h, if_pos h, if_neg (by decide)]
  · rw [if_neg h, if_neg h, if_pos (show iI 0 = (0 : Int32) from rfl)]
theorem costOf_I (h : EL w n L G M) {co : Nat → Int} (hc : ∀ a, a < 4 ^ n → M.1 47 a = iI (co a)) {a : Nat} (ha : a < 4 ^ n) : F_X0_costOf (iI (a : Int)) M = some (if okc w L G n a = true then iI (co a) else iI (-1)) := by
  have hs := h.sz
  unfold F_X0_costOf
  rw [exists_I h ha, ob_s, i10_eq0, ldi_N (by omega) (by omega), hc a ha, iL_m1]
  cases okc w L G n a <;> rfl
theorem costOf_m1 : F_X0_costOf (iI (-1)) M = some (iI (-1)) := by
  unfold F_X0_costOf
  rw [exists_m1, ob_s, if_pos (show iI 0 = (0 : Int32) from rfl)]; rfl
theorem pow4_pos (c : Nat) : 0 < 4 ^ c := Nat.pow_pos (by decide)
theorem pow4_lt {c n : Nat} (h : c < n) (hn : n ≤ 6) : 4 ^ c ≤ 1024 := (show 4 ^ c ≤ 4 ^ 5 from Nat.pow_le_pow_right (by decide) (by omega))
theorem stp_t {c a : Nat} : stp w L G n c true a = if dg a c + 1 < 4 ∧ okc w L G n (a + 4 ^ c) = true then some (a + 4 ^ c) else none := if_pos rfl
theorem stp_f {c a : Nat} : stp w L G n c false a = if 1 ≤ dg a c ∧ okc w L G n (a - 4 ^ c) = true then some (a - 4 ^ c) else none := if_neg (by decide)
theorem behindStep_I (h : EL w n L G M) {a c : Nat} {f : Bool} (ha : a < 4 ^ n) (hc : c < n) : F_X0_behindStep (iI (a : Int)) (iI (c : Int)) (iI (sgn f)) M = some (oI (stp w L G n c f a)) := by
  have hs := h.sz
  have hn := h.1.1
  have hd := dg_lt a c
  have hp := pow4_lt hc hn
  have hp0 := pow4_pos c
  unfold F_X0_behindStep
  rw [bnd_v, bnd_v, dg_I (by omega) (by omega), p4_I (by omega), iI_add, iI_mul, iI_add, h.2.2.1]
  cases f with
  | true =>
    have e1 : (a : Int) + sgn true * ((4 ^ c : Nat) : Int) = ((a + 4 ^ c : Nat) : Int) := by show (a : Int) + 1 * _ = _; rw [Int.one_mul]; rfl
    have e2 : ((dg a c : Nat) : Int) + sgn true = ((dg a c + 1 : Nat) : Int) := rfl
    rw [e1, e2, iL_0, if_lt (by omega) (by omega) (by omega) (by omega), if_neg (by omega), show (4 : Int32) = iI 4 from rfl, if_le (by omega) (by omega) (by omega) (by omega)]
    rw [stp_t]
    by_cases h4 : dg a c + 1 < 4
    · have hb : a + 4 ^ c < 4 ^ n := by rw [stp_up]; exact setd_lt n c a _ ha hc h4
      rw [if_neg (by omega), if_lt (by omega) (by omega) (by omega) (by omega), if_neg (by omega), if_lt (by omega) (by omega) (by omega) (by omega), if_pos (by omega), ldi_N (by omega) (by omega)]
      simp only [tk_m1 h hb]
      cases e : okc w L G n (a + 4 ^ c) with
      | true => rw [if_neg (by decide), if_pos ⟨h4, rfl⟩]; rfl
      | false => rw [if_pos rfl, if_neg (fun q => by cases q.2)]; rfl
    · rw [if_pos (by omega), if_neg (fun q => h4 q.1)]; rfl
  | false =>
    have e2 : ((dg a c : Nat) : Int) + sgn false = (dg a c : Int) - 1 := rfl
    rw [e2, iL_0, if_lt (by omega) (by omega) (by omega) (by omega), show (4 : Int32) = iI 4 from rfl, if_le (by omega) (by omega) (by omega) (by omega)]
    rw [stp_f]
    by_cases h4 : 1 ≤ dg a c
    · have hb := stp_down h4
      have e1 : (a : Int) + sgn false * ((4 ^ c : Nat) : Int) = ((a - 4 ^ c : Nat) : Int) := by
        show (a : Int) + (-1) * _ = _
        have := hb.2
        omega
      have hb2 : a - 4 ^ c < 4 ^ n := Nat.lt_of_le_of_lt (Nat.sub_le _ _) ha
      rw [e1, if_neg (by omega), if_neg (by omega), if_lt (by omega) (by omega) (by omega) (by omega), if_neg (by omega), if_lt (by omega) (by omega) (by omega) (by omega), if_pos (by omega), ldi_N (by omega) (by omega)]
      simp only [tk_m1 h hb2]
      cases e : okc w L G n (a - 4 ^ c) with
      | true => rw [if_neg (by decide), if_pos ⟨h4, rfl⟩]; rfl
      | false => rw [if_pos rfl, if_neg (fun q => by cases q.2)]; rfl
    · rw [if_pos (by omega), if_neg (fun q => h4 q.1)]; rfl
end XE
/-- costs are small: at most the place where it was found -/
def CB (S : SS) : Prop := ∀ j, j < S.2.length → S.1 (S.2.getD j 0) ≤ j
theorem CBvis {V : Nat → Prop} {S : SS} {d : Int} {a : Nat} (h : CB S) (hS : SB V S) (hd : d ≤ S.2.length) : CB (vis d S a) := by
  by_cases e : S.1 a = -1
  · rw [vis_new e]
    intro j hj
    have hj2 : j < (S.2 ++ [a]).length := hj
    rw [List.length_append] at hj2
    have hn : a ∉ S.2 := fun q => (hS.mem.mp q) e
    show (if (S.2 ++ [a]).getD j 0 = a then d else S.1 ((S.2 ++ [a]).getD j 0)) ≤ j
    by_cases e1 : j < S.2.length
    · rw [getD_app e1, if_neg (show S.2.getD j 0 ≠ a from fun q => hn (by rw [← q]; exact getD_mem e1))]; exact h j e1
    · have e2 : j = S.2.length := by simp only [List.length_singleton] at hj2; omega
      subst e2
      rw [getD_last, if_pos rfl]; exact hd
  · rw [vis_old e]; exact h
theorem CBvisl {V : Nat → Prop} {d : Int} (hd0 : 0 ≤ d) : ∀ {l : List Nat} {S : SS}, CB S → SB V S → d ≤ S.2.length → (∀ a ∈ l, V a) → CB (visl d S l)
  | [], _, h, _, _, _ => h
  | a :: l, S, h, hS, hd, hl => CBvisl (l := l) (V := V) hd0 (CBvis h hS hd) (SBvis hS hd0 (hl a List.mem_cons_self)) (by have := (Gvis d S a).2.2.1; omega) fun b hb => hl b (List.mem_cons_of_mem _ hb)
theorem CB.hi {V : Nat → Prop} {S : SS} {N : Nat} (h : CB S) (hS : SB V S) (hV : ∀ b, V b → b < N) (a : Nat) : S.1 a ≤ N := by
  by_cases ha : a ∈ S.2
  · obtain ⟨j, hj, rfl⟩ := mem_getD ha
    have h1 := h j hj
    have h2 := nd_le hS.1 (fun b hb => hV b (hS.2.1 b hb).1)
    omega
  · rw [hS.2.2 a ha]; omega
/-- the arrangements that are possible -/
def VV (w : Nat) (L G : Nat → Nat) (n a : Nat) : Prop := a < 4 ^ n ∧ okc w L G n a = true
section XF
variable {w n : Nat} {L G : Nat → Nat} {M : Wd} {S : SS}
theorem find_I (h : EL w n L G M) (hE : SE n M S) (hS : SB (VV w L G n) S) (hB : CB S) {a : Nat} {d : Int} (ha : VV w L G n a) (hd0 : 0 ≤ d) (hd : d < 2147483648) :
    ∃ M', F_X0_find (iI (a : Int)) (iI d) M = some M' ∧ SE n M' (vis d S a) ∧ frB M M' := by
  have hs := h.sz
  have hhi := hB.hi hS (fun b hb => hb.1) a
  have hlo := hS.lo a
  have ha1 := ha.1
  unfold F_X0_find
  rw [iL_0, if_lt (by omega) (by omega) (by omega) (by omega), if_neg (by omega), h.2.2.1, if_le (by omega) (by omega) (by omega) (by omega), if_neg (by omega), ldi_N (by omega) (by omega)]
  simp only [tk_m1 h ha.1, ha.2]
  rw [if_neg (by decide), ldi_N (by omega) (by omega), hE.1 a ha.1, iL_m1, if_eq (by omega) (by omega) (by omega) (by omega)]
  by_cases e : S.1 a = -1
  · have hr := hS.room (N := 4 ^ n) (fun b hb => hb.1) ha e
    rw [if_pos e, hE.2.2, if_lt (by omega) (by omega) (by omega) (by omega), if_neg (by omega), show (4096 : Int32) = iI 4096 from rfl, if_le (by omega) (by omega) (by omega) (by omega), if_neg (by omega), inb_N (by omega) (by omega), inb_N (by omega) (by omega), iI_clN (by omega), iI_clN (by omega), iL_1, iI_add]
    refine ⟨_, rfl, ?_, ?_⟩
    · rw [vis_new e]
      refine ⟨fun b hb => ?_, fun j hj => ?_, ?_⟩
      · rw [upI_row_ne (by decide), upI_row_ne (by decide), upI_row]
        show upd (M.1 47) a (iI d) b = iI (if b = a then d else S.1 b)
        by_cases e1 : b = a
        · rw [if_pos e1]; exact if_pos e1
        · rw [if_neg e1, ← hE.1 b hb]; exact if_neg e1
      · have hj2 : j < (S.2 ++ [a]).length := hj
        rw [List.length_append, List.length_singleton] at hj2
        rw [upI_row_ne (by decide), upI_row, upI_row_ne (by decide)]
        show upd (M.1 48) S.2.length (iI a) j = iI ((S.2 ++ [a]).getD j 0 : Nat)
        by_cases e1 : j < S.2.length
        · rw [getD_app e1, ← hE.2.1 j e1]; exact if_neg (by omega)
        · have : j = S.2.length := by omega
          subst this
          rw [getD_last]; exact if_pos rfl
      · rw [upI_row]
        show upd _ 9 _ 9 = iI ((S.2 ++ [a]).length : Nat)
        rw [List.length_append]
        exact if_pos rfl
    · refine ⟨fun c h1 h2 h3 => ?_, fun j hj => ?_, rfl⟩
      · rw [upI_row_ne h3, upI_row_ne h2, upI_row_ne h1]
      · rw [upI_row]
        show upd _ 9 _ j = _
        rw [upI_row_ne (by decide), upI_row_ne (by decide)]
        exact if_neg hj
  · rw [if_neg e, vis_old e]
    exact ⟨M, rfl, hE, frB.rf M⟩
/-- along a lane -/
theorem along_I {c m : Nat} {f : Bool} {d : Int} (hc : c < n) (hm : m < 1000) (hd0 : 0 ≤ d) (hd : d < 2147483648) {ρ : Type} {K : Wd → Option ρ} : ∀ (r q a : Nat) (M : Wd) (S : SS), r ≤ m → EL w n L G M → SE n M S → SB (VV w L G n) S → CB S → d ≤ S.2.length → a < 4 ^ n →
    ∃ M', F_X0_spreadAlong_L12 (iI (c : Int)) (iI (sgn f)) (iI (m : Int)) (iI d) K (q + 1 + r) (oI (stp w L G n c f a)) (iI ((m - r + 1 : Nat) : Int)) M = K M' ∧ SE n M' (visl d S (pth w L G n c f r a)) ∧ frB M M'
  | 0, q, a, M, S, hr, h, hE, hS, hB, hdl, ha => by
    refine ⟨M, ?_, hE, frB.rf M⟩
    show (if iI (m : Int) < iI ((m - 0 + 1 : Nat) : Int) then K M else _) = K M
    rw [if_lt (by omega) (by omega) (by omega) (by omega), if_pos (by omega)]
  | r + 1, q, a, M, S, hr, h, hE, hS, hB, hdl, ha => by
    show ∃ M', (if iI (m : Int) < iI ((m - (r + 1) + 1 : Nat) : Int) then K M else if oI (stp w L G n c f a) = (-1 : Int32) then K M else obind (F_X0_find (oI (stp w L G n c f a)) (iI d) M) fun M6 => obind (F_X0_behindStep (oI (stp w L G n c f a)) (iI (c : Int)) (iI (sgn f)) M6) fun v8 => bnd (iI ((m - (r + 1) + 1 : Nat) : Int) + (1 : Int32)) fun v11 => F_X0_spreadAlong_L12 (iI (c : Int)) (iI (sgn f)) (iI (m : Int)) (iI d) K (q + 1 + r) v8 v11 M6) = K M' ∧ _
    rw [if_lt (by omega) (by omega) (by omega) (by omega), if_neg (by omega)]
    cases e : stp w L G n c f a with
    | none =>
      refine ⟨M, if_pos rfl, ?_, frB.rf M⟩
      unfold pth
      rw [e]; exact hE
    | some b =>
      have hb := stp_ok ha hc e
      have hs := h.sz
      have hb1 := hb.1
      show ∃ M', (if iI (b : Int) = (-1 : Int32) then K M else obind (F_X0_find (iI (b : Int)) (iI d) M) fun M6 => obind (F_X0_behindStep (iI (b : Int)) (iI (c : Int)) (iI (sgn f)) M6) fun v8 => bnd (iI ((m - (r + 1) + 1 : Nat) : Int) + (1 : Int32)) fun v11 => F_X0_spreadAlong_L12 (iI (c : Int)) (iI (sgn f)) (iI (m : Int)) (iI d) K (q + 1 + r) v8 v11 M6) = K M' ∧ _
      rw [iL_m1, if_eq (by omega) (by omega) (by omega) (by omega), if_neg (by omega)]
      obtain ⟨M1, f1, f2, f3⟩ := find_I h hE hS hB (a := b) (d := d) hb hd0 hd
      have h1 := h.fr f3
      rw [f1, ob_s, behindStep_I h1 hb.1 hc, ob_s, bnd_v, iL_1, iI_add]
      obtain ⟨M2, g1, g2, g3⟩ := along_I hc hm hd0 hd (K := K) r q b M1 (vis d S b) (by omega) h1 f2 (SBvis hS hd0 hb) (CBvis hB hS hdl) (by have := (Gvis d S b).2.2.1; omega) hb.1
      refine ⟨M2, ?_, ?_, f3.tr g3⟩
      · rw [← g1]
        have e9 : ((m - (r + 1) + 1 : Nat) : Int) + 1 = ((m - r + 1 : Nat) : Int) := by omega
        rw [e9]
      · unfold pth
        rw [e]; exact g2
theorem spreadAlong_I (h : EL w n L G M) (hE : SE n M S) (hS : SB (VV w L G n) S) (hB : CB S) {a c m : Nat} {f : Bool} {d : Int} (hc : c < n) (hm : m < 1000) (hd0 : 0 ≤ d) (hdl : d ≤ S.2.length) (ha : a < 4 ^ n) :
    ∃ M', F_X0_spreadAlong (iI (a : Int)) (iI (c : Int)) (iI (sgn f)) (iI (m : Int)) (iI d) M = some M' ∧ SE n M' (visl d S (pth w L G n c f m a)) ∧ frB M M' := by
  have hs := h.sz
  have hl := nd_le hS.1 (fun b hb => (hS.2.1 b hb).1.1)
  unfold F_X0_spreadAlong
  rw [behindStep_I h ha hc, ob_s]
  obtain ⟨q, hq⟩ := fuelS m (by omega)
  rw [hq]
  obtain ⟨M', h1, h2⟩ := along_I (f := f) hc hm hd0 (by omega) (K := fun M13 => some M13) m q a M S (Nat.le_refl _) h hE hS hB hdl ha
  refine ⟨M', ?_, h2⟩
  rw [Nat.sub_self] at h1
  exact h1
/-- neighbours by cars c to c + r, forwards first -/
def nbF (w : Nat) (L G : Nat → Nat) (n m a : Nat) : Nat → Nat → List Nat
  | _, 0 => []
  | c, r + 1 => pth w L G n c true m a ++ (pth w L G n c false m a ++ nbF w L G n m a (c + 1) r)
theorem nbF_mem {m a v : Nat} : ∀ {r c : Nat}, v ∈ nbF w L G n m a c r ↔ ∃ k f, c ≤ k ∧ k < c + r ∧ v ∈ pth w L G n k f m a
  | 0, c => ⟨fun h => (nomatch h), fun ⟨k, _, h1, h2, _⟩ => by omega⟩
  | r + 1, c => by
    unfold nbF
    rw [List.mem_append, List.mem_append, nbF_mem]
    constructor
    · rintro (h | h | ⟨k, f, h1, h2, h3⟩)
      · exact ⟨c, true, by omega, by omega, h⟩
      · exact ⟨c, false, by omega, by omega, h⟩
      · exact ⟨k, f, by omega, by omega, h3⟩
    · rintro ⟨k, f, h1, h2, h3⟩
      by_cases e : k = c
      · subst e
        cases f with
        | true => exact Or.inl h3
        | false => exact Or.inr (Or.inl h3)
      · exact Or.inr (Or.inr ⟨k, f, by omega, by omega, h3⟩)
theorem nbF_ok {m a r c : Nat} (ha : a < 4 ^ n) (hc : c + r ≤ n) : ∀ v ∈ nbF w L G n m a c r, VV w L G n v := by
  intro v hv
  obtain ⟨k, f, h1, h2, h3⟩ := nbF_mem.mp hv
  exact pth_ok (by omega) ha v h3
theorem cars_I {m i : Nat} {d : Int} (hm : m < 1000) (hd0 : 0 ≤ d) {ρ : Type} {K : Wd → Option ρ} : ∀ (r c q : Nat) (M : Wd) (S : SS), c + r = n → EL w n L G M → SE n M S → SB (VV w L G n) S → CB S → d ≤ S.2.length → i < S.2.length →
    ∃ M', F_X0_spread_L33 (iI (m : Int)) (iI (i : Int)) (iI d) K (q + 1 + r) (iI (c : Int)) M = K M' ∧ SE n M' (visl d S (nbF w L G n m (S.2.getD i 0) c r)) ∧ frB M M'
  | 0, c, q, M, S, hr, h, hE, hS, hB, hdl, hi => by
    have hn := h.1.1
    refine ⟨M, ?_, hE, frB.rf M⟩
    show (if (M.1 44 6) ≤ iI (c : Int) then K M else _) = K M
    rw [h.2.1, if_le (by omega) (by omega) (by omega) (by omega), if_pos (by omega)]
  | r + 1, c, q, M, S, hr, h, hE, hS, hB, hdl, hi => by
    have hn := h.1.1
    have hs := h.sz
    have hl := nd_le hS.1 (fun b hb => (hS.2.1 b hb).1.1)
    have hu := (hS.2.1 _ (getD_mem hi)).1.1
    have hc : c < n := by omega
    show ∃ M', (if (M.1 44 6) ≤ iI (c : Int) then K M else ldi (M.1 48) 4096 (iI (i : Int)) fun v12 => obind (F_X0_spreadAlong v12 (iI (c : Int)) (1 : Int32) (iI (m : Int)) (iI d) M) fun M15 => ldi (M15.1 48) 4096 (iI (i : Int)) fun v17 => obind (F_X0_spreadAlong v17 (iI (c : Int)) (-1 : Int32) (iI (m : Int)) (iI d) M15) fun M20 => bnd (iI (c : Int) + (1 : Int32)) fun v22 => F_X0_spread_L33 (iI (m : Int)) (iI (i : Int)) (iI d) K (q + 1 + r) v22 M20) = K M' ∧ _
    rw [h.2.1, if_le (by omega) (by omega) (by omega) (by omega), if_neg (by omega), ldi_N (by omega) (by omega), hE.2.1 i hi]
    obtain ⟨M1, f1, f2, f3⟩ := spreadAlong_I (f := true) h hE hS hB hc hm hd0 hdl hu
    have hp1 : ∀ v ∈ pth w L G n c true m (S.2.getD i 0), VV w L G n v := pth_ok hc hu
    have hS1 := SBvisl (d := d) hd0 hS hp1
    have hB1 := CBvisl (d := d) hd0 hB hS hdl hp1
    have hg1 := Gvisl d (pth w L G n c true m (S.2.getD i 0)) S
    have h1 := h.fr f3
    have hl1 := nd_le hS1.1 (fun b hb => (hS1.2.1 b hb).1.1)
    rw [show (-1 : Int32) = iI (sgn false) from rfl, show (1 : Int32) = iI (sgn true) from rfl, f1, ob_s, ldi_N (by omega) (by omega), f2.2.1 i (by have := hg1.2.2.1; omega), hg1.2.2.2 i hi]
    obtain ⟨M2, g1, g2, g3⟩ := spreadAlong_I (f := false) h1 f2 hS1 hB1 hc hm hd0 (by have := hg1.2.2.1; omega) hu
    have hp2 : ∀ v ∈ pth w L G n c false m (S.2.getD i 0), VV w L G n v := pth_ok hc hu
    have hg2 := Gvisl d (pth w L G n c false m (S.2.getD i 0)) (visl d S (pth w L G n c true m (S.2.getD i 0)))
    have hS2 := SBvisl (d := d) hd0 hS1 hp2
    have hB2 := CBvisl (d := d) hd0 hB1 hS1 (by have := hg1.2.2.1; omega) hp2
    have h2 := h1.fr g3
    rw [g1, ob_s, bnd_v, show iI (sgn true) = iI 1 from rfl, iI_add]
    have hg12 := hg1.tr hg2
    obtain ⟨M3, k1, k2, k3⟩ := cars_I (i := i) hm hd0 (K := K) r (c + 1) q M2 (visl d (visl d S (pth w L G n c true m (S.2.getD i 0))) (pth w L G n c false m (S.2.getD i 0))) (by omega) h2 g2 hS2 hB2 (by have := hg12.2.2.1; omega) (by have := hg12.2.2.1; omega)
    refine ⟨M3, k1, ?_, (f3.tr g3).tr k3⟩
    rw [hg12.2.2.2 i hi] at k2
    unfold nbF
    rw [visl_app, visl_app]
    exact k2
end XF
