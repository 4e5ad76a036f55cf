/-! ===== costs by fuel: labels, and that they are unique ===== -/
section WA
variable {w n s : Nat} {L G : Nat → Nat}
def Edg (w : Nat) (L G : Nat → Nat) (n u v : Nat) (g : Int) : Prop := ∃ c f, c < n ∧ stp w L G n c f u = some v ∧ (G c : Int) = g
def W1 (w : Nat) (L G : Nat → Nat) (n s : Nat) (co : Nat → Int) : Prop := (∀ a, -1 ≤ co a) ∧ (∀ a, 0 ≤ co a → VV w L G n a) ∧ co s = 0 ∧ ∀ a, 0 ≤ co a → a = s ∨ ∃ u g, Edg w L G n u a g ∧ 0 ≤ co u ∧ co u + g ≤ co a
def W2 (w : Nat) (L G : Nat → Nat) (n : Nat) (co : Nat → Int) : Prop := ∀ u v g, Edg w L G n u v g → 0 ≤ co u → 0 ≤ co v ∧ co v ≤ co u + g
theorem Edg.g {u v : Nat} {g : Int} (hLG : LGok L G n) (h : Edg w L G n u v g) : 2 ≤ g ∧ g ≤ 3 := by
  obtain ⟨c, f, hc, -, rfl⟩ := h
  have := hLG c hc
  omega
theorem Edg.v {u v : Nat} {g : Int} (h : Edg w L G n u v g) (hu : VV w L G n u) : VV w L G n v := by
  obtain ⟨c, f, hc, h1, -⟩ := h
  exact stp_ok hu.1 hc h1
theorem W_le (hLG : LGok L G n) {co cp : Nat → Int} (h : W1 w L G n s co) (h0 : cp s = 0) (h2 : W2 w L G n cp) : ∀ (k j : Nat), j ≤ k → ∀ a, co a = (j : Int) → 0 ≤ cp a ∧ cp a ≤ j
  | 0, j, hj, a, ha => by
    rcases h.2.2.2 a (by omega) with rfl | ⟨u, g, e1, e2, e3⟩
    · omega
    · have := e1.g hLG; omega
  | k + 1, j, hj, a, ha => by
    rcases h.2.2.2 a (by omega) with rfl | ⟨u, g, e1, e2, e3⟩
    · omega
    · have hg := e1.g hLG
      have ih := W_le hLG h h0 h2 k (co u).toNat (by omega) u (by omega)
      have := h2 u a g e1 ih.1
      omega
theorem W_le' (hLG : LGok L G n) {co cp : Nat → Int} (h : W1 w L G n s co) (h0 : cp s = 0) (h2 : W2 w L G n cp) {a : Nat} (ha : 0 ≤ co a) : 0 ≤ cp a ∧ cp a ≤ co a := by
  have := W_le hLG h h0 h2 (co a).toNat (co a).toNat (Nat.le_refl _) a (by omega)
  omega
def rlx (co : Nat → Int) (v : Nat) (d : Int) : Nat → Int := if co v = -1 ∨ d < co v then (fun k => if k = v then d else co k) else co
theorem rlx_y {co : Nat → Int} {v : Nat} {d : Int} (h : co v = -1 ∨ d < co v) : rlx co v d = fun k => if k = v then d else co k := if_pos h
theorem rlx_n {co : Nat → Int} {v : Nat} {d : Int} (h : ¬ (co v = -1 ∨ d < co v)) : rlx co v d = co := if_neg h
theorem rlx_ne {co : Nat → Int} {v a : Nat} {d : Int} (h : a ≠ v) : rlx co v d a = co a := by
  unfold rlx
  split
  · exact if_neg h
  · rfl
theorem rlx_e {co : Nat → Int} {v a : Nat} {d : Int} (h : co v = -1 ∨ d < co v) : rlx co v d a = if a = v then d else co a := by rw [rlx_y h]
theorem rlx_v {co : Nat → Int} {v : Nat} {d : Int} (h : co v = -1 ∨ d < co v) : rlx co v d v = d := by rw [rlx_e h, if_pos rfl]
theorem rlx_at {co : Nat → Int} {v : Nat} {d : Int} (hd : 0 ≤ d) (h : -1 ≤ co v) : 0 ≤ rlx co v d v ∧ rlx co v d v ≤ d := by
  by_cases e : co v = -1 ∨ d < co v
  · rw [rlx_v e]; omega
  · rw [rlx_n e]; omega
/-- labels only get less -/
def Less (co cp : Nat → Int) : Prop := ∀ a, 0 ≤ co a → 0 ≤ cp a ∧ cp a ≤ co a
theorem Less.rf (co : Nat → Int) : Less co co := fun _ h => ⟨h, Int.le_refl _⟩
theorem Less.tr {co cp cq : Nat → Int} (h : Less co cp) (h2 : Less cp cq) : Less co cq := fun a ha => ⟨(h2 a (h a ha).1).1, Int.le_trans (h2 a (h a ha).1).2 (h a ha).2⟩
theorem Less.rlx (co : Nat → Int) (v : Nat) {d : Int} (hd : 0 ≤ d) : Less co (rlx co v d) := by
  intro a ha
  by_cases e : a = v
  · subst e
    by_cases h : co a = -1 ∨ d < co a
    · rw [rlx_v h]; omega
    · rw [rlx_n h]; omega
  · rw [rlx_ne e]; omega
theorem W1_rlx (hLG : LGok L G n) {co : Nat → Int} (h : W1 w L G n s co) {u v : Nat} {g : Int} (he : Edg w L G n u v g) (hu : 0 ≤ co u) : W1 w L G n s (rlx co v (co u + g)) := by
  have hg := he.g hLG
  have hv := he.v (h.2.1 u hu)
  by_cases e : co v = -1 ∨ co u + g < co v
  · have huv : u ≠ v := fun q => by subst q; omega
    have hsv : s ≠ v := fun q => by subst q; have := h.2.2.1; omega
    rw [rlx_y e]
    refine ⟨fun a => ?_, fun a ha => ?_, ?_, fun a ha => ?_⟩
    · show -1 ≤ (if a = v then co u + g else co a)
      by_cases e1 : a = v
      · rw [if_pos e1]; omega
      · rw [if_neg e1]; exact h.1 a
    · have ha' : 0 ≤ (if a = v then co u + g else co a) := ha
      by_cases e1 : a = v
      · rw [e1]; exact hv
      · rw [if_neg e1] at ha'; exact h.2.1 a ha'
    · show (if s = v then co u + g else co s) = 0
      rw [if_neg hsv]; exact h.2.2.1
    · have ha' : 0 ≤ (if a = v then co u + g else co a) := ha
      show a = s ∨ ∃ x y, Edg w L G n x a y ∧ 0 ≤ (if x = v then co u + g else co x) ∧ (if x = v then co u + g else co x) + y ≤ (if a = v then co u + g else co a)
      by_cases e1 : a = v
      · right
        refine ⟨u, g, by rw [e1]; exact he, ?_, ?_⟩
        · rw [if_neg huv]; exact hu
        · rw [if_neg huv, if_pos e1]; omega
      · rw [if_neg e1] at ha' ⊢
        rcases h.2.2.2 a ha' with q | ⟨x, y, q1, q2, q3⟩
        · exact Or.inl q
        · right
          refine ⟨x, y, q1, ?_, ?_⟩
          · by_cases e2 : x = v
            · rw [if_pos e2]; omega
            · rw [if_neg e2]; exact q2
          · by_cases e2 : x = v
            · subst e2; rw [if_pos rfl]; omega
            · rw [if_neg e2]; exact q3
  · rw [rlx_n e]; exact h
/-- how many have a label -/
def cntl (co : Nat → Int) (N : Nat) : Nat := fb_ct (fun a => decide (0 ≤ co a)) N
def BD (N : Nat) (co : Nat → Int) : Prop := ∀ a, co a ≤ 3 * (cntl co N : Int) - 3
theorem cntl_up {co : Nat → Int} {N v : Nat} {d : Int} (hv : v < N) (h : co v = -1) (hd : 0 ≤ d) : cntl (fun k => if k = v then d else co k) N = cntl co N + 1 := by
  have h1 := fb_ct_upd (fun a => decide (0 ≤ co a)) true hv
  rw [if_neg (by rw [h]; decide), if_pos rfl] at h1
  unfold cntl
  rw [← h1, Nat.add_zero]
  exact fb_ct_cong fun k _ => by
    show decide (0 ≤ (if k = v then d else co k)) = (if k = v then true else decide (0 ≤ co k))
    by_cases e : k = v
    · rw [if_pos e, if_pos e]; exact decide_eq_true hd
    · rw [if_neg e, if_neg e]
theorem cntl_same {co : Nat → Int} {N v : Nat} {d : Int} (h : 0 ≤ co v) (hd : 0 ≤ d) : cntl (fun k => if k = v then d else co k) N = cntl co N := by
  unfold cntl
  exact fb_ct_cong fun k _ => by
    show decide (0 ≤ (if k = v then d else co k)) = decide (0 ≤ co k)
    by_cases e : k = v
    · subst e; rw [if_pos rfl, decide_eq_true hd, decide_eq_true h]
    · rw [if_neg e]
theorem cntl_le (co : Nat → Int) (N : Nat) : cntl co N ≤ N := fb_ct_le _ N
theorem BD_rlx {N : Nat} {co : Nat → Int} (h : BD N co) (hl : ∀ a, -1 ≤ co a) {u v : Nat} {g : Int} (hv : v < N) (hg : 2 ≤ g ∧ g ≤ 3) (hu : 0 ≤ co u) : BD N (rlx co v (co u + g)) := by
  by_cases e : co v = -1 ∨ co u + g < co v
  · rw [rlx_y e]
    have hu2 := h u
    intro a
    show (if a = v then co u + g else co a) ≤ _
    by_cases e1 : co v = -1
    · rw [cntl_up hv e1 (by omega)]
      have := h a
      by_cases e2 : a = v
      · rw [if_pos e2]; omega
      · rw [if_neg e2]; omega
    · have := hl v
      rw [cntl_same (by omega) (by omega)]
      have h1 := h a
      have h2 := h v
      by_cases e2 : a = v
      · rw [if_pos e2]; omega
      · rw [if_neg e2]; omega
  · rw [rlx_n e]; exact h
theorem BD.hi {co : Nat → Int} {N : Nat} (h : BD N co) (hN : N ≤ 4096) (a : Nat) : co a ≤ 12285 := by
  have := h a
  have := cntl_le co N
  omega
/-- the least label of those that are out -/
def LE (w : Nat) (L G : Nat → Nat) (n : Nat) (co : Nat → Int) (r : Int) : Prop :=
  (r = -1 ∧ ∀ a, a < 4 ^ n → isE G n a = true → co a = -1) ∨ (0 ≤ r ∧ (∃ a, a < 4 ^ n ∧ isE G n a = true ∧ co a = r) ∧ ∀ a, a < 4 ^ n → isE G n a = true → 0 ≤ co a → r ≤ co a)
theorem LE.eq {co : Nat → Int} {r t : Int} (h : LE w L G n co r) (h2 : LE w L G n co t) : r = t := by
  rcases h with ⟨h1, h3⟩ | ⟨h1, ⟨a, a1, a2, a3⟩, h4⟩
  · rcases h2 with ⟨g1, g3⟩ | ⟨g1, ⟨b, b1, b2, b3⟩, g4⟩
    · omega
    · have := h3 b b1 b2; omega
  · rcases h2 with ⟨g1, g3⟩ | ⟨g1, ⟨b, b1, b2, b3⟩, g4⟩
    · have := g3 a a1 a2; omega
    · have h5 := h4 b b1 b2 (by omega)
      have h6 := g4 a a1 a2 (by omega)
      omega
/-- the begin: the start alone has a label -/
def co0 (s : Nat) : Nat → Int := fun k => if k = s then 0 else -1
theorem W1_0 (hs : VV w L G n s) : W1 w L G n s (co0 s) := by
  refine ⟨fun a => ?_, fun a ha => ?_, if_pos rfl, fun a ha => ?_⟩
  · unfold co0; split <;> omega
  · unfold co0 at ha
    by_cases e : a = s
    · rw [e]; exact hs
    · rw [if_neg e] at ha; omega
  · unfold co0 at ha
    by_cases e : a = s
    · exact Or.inl e
    · rw [if_neg e] at ha; omega
theorem BD_0 {N : Nat} (hs : s < N) : BD N (co0 s) := by
  have hc : 1 ≤ cntl (co0 s) N := by
    have h1 := cntl_up (co := fun _ => -1) (N := N) (v := s) (d := 0) hs rfl (by omega)
    rw [show co0 s = (fun k => if k = s then (0 : Int) else (fun _ => (-1 : Int)) k) from rfl, h1]
    omega
  intro a
  unfold co0 at hc ⊢
  by_cases e : a = s
  · rw [if_pos e]; omega
  · rw [if_neg e]; omega
end WA
