/-! ===== what the decompiled functions are written in ===== -/
def bnd {α β : Type} (a : α) (g : α → β) : β := g a
theorem bnd_e {α β : Type} {a : α} {g : α → β} {r : β} (h : bnd a g = r) : ∃ v, v = a ∧ g v = r := ⟨a, rfl, h⟩
def obind {α β : Type} (a : Option α) (g : α → Option β) : Option β := match a with
  | some v => g v
  | none => none
theorem obind_e {α β : Type} {a : Option α} {g : α → Option β} {r : β} (h : obind a g = some r) : ∃ v, a = some v ∧ g v = some r := by
  cases a with
  | none => cases h
  | some v => exact ⟨v, rfl, h⟩
def obind2 {α β γ : Type} (a : Option (α × β)) (g : α → β → Option γ) : Option γ := match a with
  | some (v, w) => g v w
  | none => none
theorem obind2_e {α β γ : Type} {a : Option (α × β)} {g : α → β → Option γ} {r : γ} (h : obind2 a g = some r) : ∃ v w, a = some (v, w) ∧ g v w = some r := by
  cases a with
  | none => cases h
  | some v => exact ⟨v.1, v.2, rfl, h⟩
def obind3 {α β γ δ : Type} (a : Option (α × β × γ)) (g : α → β → γ → Option δ) : Option δ := match a with
  | some (u, v, w) => g u v w
  | none => none
theorem obind3_e {α β γ δ : Type} {a : Option (α × β × γ)} {g : α → β → γ → Option δ} {r : δ} (h : obind3 a g = some r) : ∃ u v w, a = some (u, v, w) ∧ g u v w = some r := by
  cases a with
  | none => cases h
  | some v => exact ⟨v.1, v.2.1, v.2.2, rfl, h⟩
def obind4 {α β γ δ ε : Type} (a : Option (α × β × γ × δ)) (g : α → β → γ → δ → Option ε) : Option ε := match a with
  | some (u, v, w, x) => g u v w x
  | none => none
theorem obind4_e {α β γ δ ε : Type} {a : Option (α × β × γ × δ)} {g : α → β → γ → δ → Option ε} {r : ε} (h : obind4 a g = some r) : ∃ u v w x, a = some (u, v, w, x) ∧ g u v w x = some r := by
  cases a with
  | none => cases h
  | some v => exact ⟨v.1, v.2.1, v.2.2.1, v.2.2.2, rfl, h⟩
/-- a call that may throw: its value and world, or the exception's number (1 index, 2 argument, 3 state) and world -/
def obindX {α γ : Type} (a : Option ((α ⊕ Nat) × Wd)) (g : α → Wd → Option γ) (gx : Nat → Wd → Option γ) : Option γ := match a with
  | some (.inl v, M) => g v M
  | some (.inr x, M) => gx x M
  | none => none
theorem obindX_e {α γ : Type} {a : Option ((α ⊕ Nat) × Wd)} {g : α → Wd → Option γ} {gx : Nat → Wd → Option γ} {r : γ} (h : obindX a g gx = some r) : (∃ v M, a = some (.inl v, M) ∧ g v M = some r) ∨ ∃ x M, a = some (.inr x, M) ∧ gx x M = some r := by
  match a, h with
  | some (.inl v, M), h => exact Or.inl ⟨v, M, rfl, h⟩
  | some (.inr x, M), h => exact Or.inr ⟨x, M, rfl, h⟩
/-- a load from an int array of N places -/
def ldi {β : Type} (a : Nat → Int32) (N : Nat) (i : Int32) (g : Int32 → Option β) : Option β := if i < 0 ∨ N ≤ i.toNatClampNeg then none else g (a i.toNatClampNeg)
theorem ldi_e {β : Type} {a : Nat → Int32} {N : Nat} {i : Int32} {g : Int32 → Option β} {r : β} (h : ldi a N i g = some r) : ∃ v, v = a i.toNatClampNeg ∧ vp_in i N ∧ g v = some r := by
  unfold ldi at h
  by_cases c : i < 0 ∨ N ≤ i.toNatClampNeg
  · rw [if_pos c] at h; cases h
  · rw [if_neg c] at h; exact ⟨_, rfl, c, h⟩
/-- an index within -/
def inb {β : Type} (N : Nat) (i : Int32) (k : Option β) : Option β := if i < 0 ∨ N ≤ i.toNatClampNeg then none else k
theorem inb_e {β : Type} {N : Nat} {i : Int32} {k : Option β} {r : β} (h : inb N i k = some r) : vp_in i N ∧ k = some r := by
  unfold inb at h
  by_cases c : i < 0 ∨ N ≤ i.toNatClampNeg
  · rw [if_pos c] at h; cases h
  · rw [if_neg c] at h; exact ⟨c, h⟩
/-- a truth value -/
def chB {β : Type} (x : Int32) (k : Option β) : Option β := if x = 0 ∨ x = 1 then k else none
theorem chB_e {β : Type} {x : Int32} {k : Option β} {r : β} (h : chB x k = some r) : isB x ∧ k = some r := by
  unfold chB at h
  by_cases c : x = 0 ∨ x = 1
  · rw [if_pos c] at h; exact ⟨c, h⟩
  · rw [if_neg c] at h; cases h
/-- what must hold -/
def grd {β : Type} (c : Prop) [Decidable c] (k : Option β) : Option β := if c then k else none
theorem grd_e {β : Type} {c : Prop} [Decidable c] {k : Option β} {r : β} (h : grd c k = some r) : c ∧ k = some r := by
  unfold grd at h
  by_cases hc : c
  · rw [if_pos hc] at h; exact ⟨hc, h⟩
  · rw [if_neg hc] at h; cases h
theorem isB_ite {c : Prop} [Decidable c] {x y : Int32} (hx : isB x) (hy : isB y) : isB (if c then x else y) := by
  by_cases h : c
  · rw [if_pos h]; exact hx
  · rw [if_neg h]; exact hy
theorem okB_b {x : Int32} (h : okB (some .boolean) (some (.int x))) : isB x := by
  obtain ⟨y, h1, h2⟩ := h rfl
  cases h1
  exact h2
theorem nar_b {x : Int32} (E : En) (h : isB x) : narrow .boolean (cv E (.int x)) = cv E (.int x) := by rcases h with h | h <;> rw [h] <;> rfl
theorem fit_b {x : Int32} (E : En) (h : isB x) : fits .boolean (cv E (.int x)) = true := by rcases h with h | h <;> rw [h] <;> rfl
theorem vp_b {x : Int32} (h : isB x) : vp_nar .boolean x = x := by rcases h with h | h <;> rw [h] <;> rfl
theorem vpc {i : Int32} {N : Nat} (h : (decide (i < 0) || decide (N ≤ i.toNatClampNeg)) = false) : vp_in i N := by
  simp only [Bool.or_eq_false_iff, decide_eq_false_iff_not] at h
  exact fun q => q.elim h.1 h.2
def fuelN : Nat := 1000000000000
section JX
variable {κ : Kx} {E : En} {f : MI} {Q : State → Prop} {k n : Nat} {L L' : List (Nat × Value)} {M M' : Wd} {pc : Nat} {st : List Value}
theorem J_topi {x y : Int32} (h : y = x) (kk : J κ E f Q k n L M pc (.int y :: st)) : J κ E f Q k n L M pc (.int x :: st) := h ▸ kk
theorem J_topl {x y : Int64} (h : y = x) (kk : J κ E f Q k n L M pc (.long y :: st)) : J κ E f Q k n L M pc (.long x :: st) := h ▸ kk
theorem J_topd {x y : UInt64} (h : y = x) (kk : J κ E f Q k n L M pc (.double y :: st)) : J κ E f Q k n L M pc (.double x :: st) := h ▸ kk
theorem J_topa {x y : Nat} (h : y = x) (kk : J κ E f Q k n L M pc (.ref y :: st)) : J κ E f Q k n L M pc (.ref x :: st) := h ▸ kk
theorem J_jp {ρ : Type} {K : Wd → Option ρ} {g : (Wd → Option ρ) → Option ρ} {r : ρ} (L' : List (Nat × Value)) (k' n' pc' : Nat) (st' : List Value) (h : bnd K g = some r) (hK : ∀ a, K a = some r → J κ E f Q k' n' L' a pc' st') (kk : ∀ K' : Wd → Option ρ, (∀ a, K' a = some r → J κ E f Q k' n' L' a pc' st') → g K' = some r → J κ E f Q k n L M pc st) : J κ E f Q k n L M pc st := kk K hK h
theorem J_M (M' : Wd) (h : M = M') (kk : J κ E f Q k n L M' pc st) : J κ E f Q k n L M pc st := h ▸ kk
/-- it returned a value, and made nothing -/
theorem Jk_v {g : MI} {rest : List Value} {v : Value} (h1 : g.2.2.2.2.2.2.1 = 0) (h2 : g.2.2.2.2.2.2.2.1 = 0) (kk : okB g.2.2.2.1 (some v) → J κ E f Q k n L M' (pc + 3) (v :: rest)) : Jk κ E f g Q k n L M' pc rest (.inl (some v)) :=
  Jk_ret fun hok => by rw [h1, h2]; exact kk hok
theorem Jk_0 {g : MI} {rest : List Value} (h1 : g.2.2.2.2.2.2.1 = 0) (h2 : g.2.2.2.2.2.2.2.1 = 0) (kk : J κ E f Q k n L M' (pc + 3) rest) : Jk κ E f g Q k n L M' pc rest (.inl none) :=
  Jk_ret fun _ => by rw [h1, h2]; exact kk
/-- it returned, and may have made something -/
theorem Jk_vk {g : MI} {rest : List Value} {v : Value} (k' n' : Nat) (h1 : k + g.2.2.2.2.2.2.1 = k') (h2 : n + g.2.2.2.2.2.2.2.1 = n') (kk : okB g.2.2.2.1 (some v) → J κ E f Q k' n' L M' (pc + 3) (v :: rest)) : Jk κ E f g Q k n L M' pc rest (.inl (some v)) :=
  Jk_ret fun hok => by rw [h1, h2]; exact kk hok
theorem Jk_0k {g : MI} {rest : List Value} (k' n' : Nat) (h1 : k + g.2.2.2.2.2.2.1 = k') (h2 : n + g.2.2.2.2.2.2.2.1 = n') (kk : J κ E f Q k' n' L M' (pc + 3) rest) : Jk κ E f g Q k n L M' pc rest (.inl none) :=
  Jk_ret fun _ => by rw [h1, h2]; exact kk
end JX
/-- exceptions by number -/
def xcls (x : Nat) : String := if x = 1 then "java/lang/IndexOutOfBoundsException" else if x = 2 then "java/lang/IllegalArgumentException" else "java/lang/IllegalStateException"
theorem ifp {c : Prop} [Decidable c] {α : Type} {a b r : α} (hc : c) (h : (if c then a else b) = r) : a = r := by rw [if_pos hc] at h; exact h
theorem ifn {c : Prop} [Decidable c] {α : Type} {a b r : α} (hc : ¬ c) (h : (if c then a else b) = r) : b = r := by rw [if_neg hc] at h; exact h
def ocI (r : Int32 ⊕ Nat) : Oc := match r with
  | .inl v => .inl (some (.int v))
  | .inr x => .inr (xcls x)
def ocL (r : Int64 ⊕ Nat) : Oc := match r with
  | .inl v => .inl (some (.long v))
  | .inr x => .inr (xcls x)
def ocD (r : UInt64 ⊕ Nat) : Oc := match r with
  | .inl v => .inl (some (.double v))
  | .inr x => .inr (xcls x)
def ocV (r : Unit ⊕ Nat) : Oc := match r with
  | .inl _ => .inl none
  | .inr x => .inr (xcls x)
section JY
variable {κ : Kx} {E : En} {f : MI} {Q : State → Prop} {k n : Nat} {L : List (Nat × Value)} {M : Wd} {pc : Nat} {st : List Value}
theorem J_join (L' : List (Nat × Value)) (M' : Wd) (pc' : Nat) (st' : List Value) (hJ : J κ E f Q k n L' M' pc' st') (kk : J κ E f Q k n L' M' pc' st' → J κ E f Q k n L M pc st) : J κ E f Q k n L M pc st := kk hJ
theorem J_LS (L' : List (Nat × Value)) (st' : List Value) (h1 : L = L') (h2 : st = st') (kk : J κ E f Q k n L' M pc st') : J κ E f Q k n L M pc st := by subst h1; subst h2; exact kk
theorem J_d2raw {i : Nat} {b : UInt64} (hlink : Cond.methodLink f.1.cls i ⟨"java/lang/Double", "doubleToRawLongBits", "(D)J"⟩ ∈ SWL) (hnat : Cond.native ⟨"java/lang/Double", "doubleToRawLongBits", "(D)J"⟩ ∈ SWL) (hstat : Cond.static ⟨"java/lang/Double", "doubleToRawLongBits", "(D)J"⟩ ∈ SWL) (hini : Cond.initialized "java/lang/Double" ∈ SWL) (hf : 1 ≤ f.2.2.2.2.1) (hl2 : (st.map fun v => v.category).sum + 15 ≤ f.2.2.2.2.2.1) (hd : decode f.2.1 pc = .ok (.invokestatic i, 3))
    (kk : J κ E f Q k n L M (pc + 3) (.long b.toInt64 :: st)) : J κ E f Q k n L M pc (.double b :: st) := by
  intro hC H locs ls hP hS hl
  obtain ⟨hx, hbt, hml, hrt, hown, hts, hlk, hR, hSx, hl0, -⟩ := id hC
  exact vn_d2l hx hbt (by rw [hml, hl.1]) hown (hts _ hlink) (hts _ hnat) (hts _ hstat) (hts _ hini) (by rw [hR]; exact hf) (by rw [hR, cvs_sum]; exact hl2) hd (kk hC H locs ls hP hS hl)
end JY
