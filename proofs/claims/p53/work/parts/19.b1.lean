/-! ===== searches compared: walks, and what their numbers have to do with each other ===== -/
def Wk (nb : Nat → List Nat) : Nat → Nat → Nat → Prop
  | 0, u, v => u = v
  | m + 1, u, v => ∃ x, Wk nb m u x ∧ v ∈ nb x
theorem BF.wk {V Src : Nat → Prop} {nb : Nat → List Nat} {S : SS} (h : BF V Src nb S) : ∀ (m a : Nat), S.1 a = (m : Int) → ∃ s, Src s ∧ Wk nb m s a
  | 0, a, e => by
    obtain ⟨d, hI⟩ := h
    exact ⟨a, hI.2.2.2.2.2.2.2 a e, rfl⟩
  | m + 1, a, e => by
    obtain ⟨d, hI⟩ := id h
    have ha : a ∈ S.2 := hI.1.mem.mpr (by omega)
    obtain ⟨u, u1, u2, u3⟩ := hI.2.2.2.2.2.1 a ha (by omega)
    obtain ⟨s, s1, s2⟩ := BF.wk h m u (by omega)
    exact ⟨s, s1, u, s2, u2⟩
theorem BF.hi {V Src : Nat → Prop} {nb : Nat → List Nat} {S : SS} (h : BF V Src nb S) {s : Nat} (hs : Src s) : ∀ (m a : Nat), Wk nb m s a → 0 ≤ S.1 a ∧ S.1 a ≤ (m : Int)
  | 0, a, e => by
    obtain ⟨d, hI⟩ := h
    have e' : s = a := e
    subst e'
    have := hI.2.2.2.2.2.2.1 s hs
    omega
  | m + 1, a, ⟨x, x1, x2⟩ => by
    obtain ⟨d, hI⟩ := id h
    have h1 := BF.hi h hs m x x1
    have hx : x ∈ S.2 := hI.1.mem.mpr (by omega)
    obtain ⟨j, j1, j2⟩ := mem_getD hx
    have h2 := hI.2.2.2.2.1 j j1 a (by rw [j2]; exact x2)
    rw [j2] at h2
    have h3 := (hI.1.2.1 a h2.1).2
    omega
theorem Wk.cons {nb : Nat → List Nat} {u x : Nat} (hx : x ∈ nb u) : ∀ (m v : Nat), Wk nb m x v → Wk nb (m + 1) u v
  | 0, v, h => ⟨u, rfl, by have h' : x = v := h; rw [← h']; exact hx⟩
  | m + 1, v, ⟨y, y1, y2⟩ => ⟨y, Wk.cons hx m y y1, y2⟩
theorem Wk.app {nb : Nat → List Nat} {u x : Nat} {k : Nat} (hx : Wk nb k u x) : ∀ (m v : Nat), Wk nb m x v → Wk nb (k + m) u v
  | 0, v, h => by have h' : x = v := h; rw [← h']; exact hx
  | m + 1, v, ⟨y, y1, y2⟩ => ⟨y, Wk.app hx m y y1, y2⟩
theorem Wk.rev {nb : Nat → List Nat} {V : Nat → Prop} (hs : ∀ u v, V u → v ∈ nb u → V v ∧ u ∈ nb v) {u : Nat} (hu : V u) : ∀ (m v : Nat), Wk nb m u v → V v ∧ Wk nb m v u
  | 0, v, h => by have h' : u = v := h; subst h'; exact ⟨hu, rfl⟩
  | m + 1, v, ⟨x, x1, x2⟩ => by
    obtain ⟨h1, h2⟩ := Wk.rev hs hu m x x1
    obtain ⟨h3, h4⟩ := hs x v h1 x2
    exact ⟨h3, Wk.cons h4 m u h2⟩
section MW
variable {w n s : Nat} {L G : Nat → Nat}
theorem bs_pth {c : Nat} {f : Bool} : ∀ (r m a v : Nat), 1 ≤ m → m ≤ r → bsN w L G n c f m (some a) = some v → v ∈ pth w L G n c f r a
  | 0, m, a, v, h1, h2, _ => by omega
  | r + 1, 0, a, v, h1, h2, _ => by omega
  | r + 1, m + 1, a, v, h1, h2, h => by
    have h' : bsN w L G n c f m (stp w L G n c f a) = some v := h
    rw [pth_s]
    cases e : stp w L G n c f a with
    | none => rw [e, bsN_none] at h'; cases h'
    | some b =>
      rw [e] at h'
      match m, h' with
      | 0, h' =>
        have h'' : some b = some v := h'
        cases h''
        exact List.mem_cons_self
      | m + 1, h' => exact List.mem_cons_of_mem _ (bs_pth r (m + 1) b v (by omega) (by omega) h')
theorem nbC_mem {m u v : Nat} : v ∈ nbC w L G n m u ↔ ∃ k f, k < n ∧ v ∈ pth w L G n k f m u := by
  unfold nbC
  rw [nbF_mem]
  exact ⟨fun ⟨k, f, _, h2, h3⟩ => ⟨k, f, by omega, h3⟩, fun ⟨k, f, h2, h3⟩ => ⟨k, f, by omega, by omega, h3⟩⟩
theorem nbC_sym {m : Nat} : ∀ u v, VV w L G n u → v ∈ nbC w L G n m u → VV w L G n v ∧ u ∈ nbC w L G n m v := by
  intro u v hu hv
  obtain ⟨k, f, hk, h⟩ := nbC_mem.mp hv
  obtain ⟨j, j1, j2, j3⟩ := pth_bs m u v h
  exact ⟨pth_ok hk hu.1 v h, nbC_mem.mpr ⟨k, !f, hk, bs_pth m j v u j1 j2 (bsN_back hk j u v hu j3)⟩⟩
theorem nb1_mem {u v : Nat} : v ∈ nbC w L G n 1 u ↔ ∃ k f, k < n ∧ stp w L G n k f u = some v := by
  rw [nbC_mem]
  constructor
  · rintro ⟨k, f, hk, h⟩
    obtain ⟨j, j1, j2, j3⟩ := pth_bs 1 u v h
    have e : j = 1 := by omega
    subst e
    exact ⟨k, f, hk, j3⟩
  · rintro ⟨k, f, hk, h⟩
    exact ⟨k, f, hk, bs_pth 1 1 u v (by omega) (by omega) h⟩
theorem nb13 {u v : Nat} (h : v ∈ nbC w L G n 1 u) : v ∈ nbC w L G n 3 u := by
  obtain ⟨k, f, hk, h⟩ := nb1_mem.mp h
  exact nbC_mem.mpr ⟨k, f, hk, bs_pth 3 1 u v (by omega) (by omega) h⟩
theorem wk13 {u : Nat} : ∀ (m v : Nat), Wk (nbC w L G n 1) m u v → Wk (nbC w L G n 3) m u v
  | 0, v, h => h
  | m + 1, v, ⟨x, x1, x2⟩ => ⟨x, wk13 m x x1, nb13 x2⟩
theorem bsN_wk {c : Nat} {f : Bool} (hc : c < n) : ∀ (m a v : Nat), bsN w L G n c f m (some a) = some v → Wk (nbC w L G n 1) m a v
  | 0, a, v, h => by cases h; rfl
  | m + 1, a, v, h => by
    have h' : bsN w L G n c f m (stp w L G n c f a) = some v := h
    cases e : stp w L G n c f a with
    | none => rw [e, bsN_none] at h'; cases h'
    | some b =>
      rw [e] at h'
      exact Wk.cons (nb1_mem.mpr ⟨c, f, hc, e⟩) m v (bsN_wk hc m b v h')
theorem nb3_wk {u v : Nat} (h : v ∈ nbC w L G n 3 u) : ∃ j, j ≤ 3 ∧ Wk (nbC w L G n 1) j u v := by
  obtain ⟨k, f, hk, h⟩ := nbC_mem.mp h
  obtain ⟨j, j1, j2, j3⟩ := pth_bs 3 u v h
  exact ⟨j, j2, bsN_wk hk j u v j3⟩
theorem wk31 {u : Nat} : ∀ (m v : Nat), Wk (nbC w L G n 3) m u v → ∃ j, j ≤ 3 * m ∧ Wk (nbC w L G n 1) j u v
  | 0, v, h => ⟨0, by omega, h⟩
  | m + 1, v, ⟨x, x1, x2⟩ => by
    obtain ⟨j, j1, j2⟩ := wk31 m x x1
    obtain ⟨i, i1, i2⟩ := nb3_wk x2
    exact ⟨j + i, by omega, Wk.app j2 i v i2⟩
theorem LEn_ex {co : Nat → Int} (hl : ∀ a, -1 ≤ co a) : ∀ N, ∃ r, LEn G n co N r
  | 0 => ⟨-1, LEn_0⟩
  | N + 1 => by
    obtain ⟨r, h⟩ := LEn_ex hl N
    exact ⟨_, LEn_step h (hl N)⟩
theorem LE_ex {co : Nat → Int} (hl : ∀ a, -1 ≤ co a) : ∃ r, LE w L G n co r := by
  obtain ⟨r, h⟩ := LEn_ex (G := G) (n := n) hl (4 ^ n)
  exact ⟨r, h.le⟩
theorem LE_at {co cp : Nat → Int} {r t : Int} (h : LE w L G n co r) (h2 : LE w L G n cp t) (hc : ∀ a, 0 ≤ co a → 0 ≤ cp a) (h0 : 0 ≤ r) : ∃ a, co a = r ∧ 0 ≤ t ∧ t ≤ cp a := by
  rcases h with ⟨h, -⟩ | ⟨-, ⟨a, a1, a2, a3⟩, -⟩
  · omega
  · have h3 := hc a (by omega)
    rcases h2 with ⟨-, h2⟩ | ⟨h4, -, h5⟩
    · have := h2 a a1 a2; omega
    · exact ⟨a, a3, h4, h5 a a1 a2 h3⟩
theorem LE_lo {co : Nat → Int} {r : Int} (h : LE w L G n co r) : -1 ≤ r := by
  rcases h with ⟨h, -⟩ | ⟨h, -⟩ <;> omega
section MA3
variable (hn : n ≤ 6) (hw : w < 33554432) (hLG : LGok L G n) (hv : VV w L G n s)
theorem SrS.lo {m : Nat} {S : SS} (h : SrS w L G n m s S) (a : Nat) : -1 ≤ S.1 a := by
  obtain ⟨d, hI⟩ := h
  exact hI.1.lo a
/-- told from the start and from the ends: the same -/
theorem A_end (hn : n ≤ 6) (hw : w < 33554432) (hLG : LGok L G n) (hv : VV w L G n s) : Aleast w L G n 3 s = Aend w L G n s := by
  obtain ⟨S, hS⟩ := SrS_ex (m := 3) (by decide) hn hw hLG hv
  obtain ⟨T, hT⟩ := SrE_ex hn hw hLG hv
  obtain ⟨y, hy⟩ := LE_ex (w := w) (L := L) (G := G) (n := n) hS.lo
  rw [Aleast_eq hS hy, Aend_eq hT]
  have hTl := Aend_lo hT (a := s)
  rcases hy with ⟨h1, h2⟩ | ⟨h1, ⟨a, a1, a2, a3⟩, h2⟩
  · by_cases e : 0 ≤ T.1 s
    · obtain ⟨m, hm⟩ : ∃ m : Nat, T.1 s = (m : Int) := ⟨(T.1 s).toNat, by omega⟩
      obtain ⟨z, ⟨z1, z2, z3⟩, z4⟩ := BF.wk hT m s hm
      have h3 := Wk.rev nbC_sym (V := VV w L G n) ⟨z1, z3⟩ m s z4
      have h4 := BF.hi hS (s := s) rfl m z h3.2
      have := h2 z z1 z2
      omega
    · omega
  · obtain ⟨m, hm⟩ : ∃ m : Nat, S.1 a = (m : Int) := ⟨(S.1 a).toNat, by omega⟩
    obtain ⟨z, rfl, z4⟩ := BF.wk hS m a hm
    have h3 := Wk.rev nbC_sym (V := VV w L G n) hv m a z4
    have h4 := BF.hi hT (s := a) ⟨a1, a2, h3.1.2⟩ m z h3.2
    obtain ⟨m2, hm2⟩ : ∃ m : Nat, T.1 z = (m : Int) := ⟨(T.1 z).toNat, by omega⟩
    obtain ⟨b, ⟨b1, b2, b3⟩, b4⟩ := BF.wk hT m2 z hm2
    have h5 := Wk.rev nbC_sym (V := VV w L G n) ⟨b1, b3⟩ m2 z b4
    have h6 := BF.hi hS (s := z) rfl m2 b h5.2
    have h7 := h2 b b1 b2 h6.1
    omega
theorem D_wk {D : Nat → Int} (hLG : LGok L G n) (hD : IsD w L G n s D) : ∀ (b k a : Nat), k ≤ b → D a = (k : Int) → ∃ m, Wk (nbC w L G n 1) m s a ∧ 2 * m ≤ k
  | b, k, a, hb, e => by
    rcases hD.1.2.2.2 a (by omega) with rfl | ⟨u, g, he, hu, hg⟩
    · exact ⟨0, rfl, by omega⟩
    · have hg2 := he.g hLG
      match b, hb with
      | 0, hb => omega
      | b + 1, hb =>
        obtain ⟨m, m1, m2⟩ := D_wk hLG hD b (D u).toNat u (by omega) (by omega)
        obtain ⟨c, f, hc, hs, hgc⟩ := he
        exact ⟨m + 1, ⟨u, m1, nb1_mem.mpr ⟨c, f, hc, hs⟩⟩, by omega⟩
theorem D_hi {D : Nat → Int} (hLG : LGok L G n) (hD : IsD w L G n s D) : ∀ (m a : Nat), Wk (nbC w L G n 1) m s a → 0 ≤ D a ∧ D a ≤ 3 * (m : Int)
  | 0, a, e => by
    have e' : s = a := e
    subst e'
    have := hD.1.2.2.1
    omega
  | m + 1, a, ⟨x, x1, x2⟩ => by
    have h1 := D_hi hLG hD m x x1
    obtain ⟨c, f, hc, hs⟩ := nb1_mem.mp x2
    have hg := hLG c hc
    have h2 := hD.2 x a (G c : Int) ⟨c, f, hc, hs, rfl⟩ h1.1
    omega
/-- slides, steps, fuel -/
theorem A_plans (hn : n ≤ 6) (hw : w < 33554432) (hLG : LGok L G n) (hv : VV w L G n s) : (Aleast w L G n 3 s = -1 ∧ Aleast w L G n 1 s = -1 ∧ Afuel w L G n s = -1) ∨ (0 ≤ Aleast w L G n 3 s ∧ Aleast w L G n 3 s ≤ Aleast w L G n 1 s ∧ Aleast w L G n 1 s ≤ 3 * Aleast w L G n 3 s ∧ 2 * Aleast w L G n 1 s ≤ Afuel w L G n s ∧ Afuel w L G n s ≤ 3 * Aleast w L G n 1 s) := by
  obtain ⟨S, hS⟩ := SrS_ex (m := 3) (by decide) hn hw hLG hv
  obtain ⟨T, hT⟩ := SrS_ex (m := 1) (by decide) hn hw hLG hv
  obtain ⟨D, hD⟩ := D_ex hn hw hLG hv
  obtain ⟨y, hy⟩ := LE_ex (w := w) (L := L) (G := G) (n := n) hS.lo
  obtain ⟨z, hz⟩ := LE_ex (w := w) (L := L) (G := G) (n := n) hT.lo
  obtain ⟨f, hf⟩ := LE_ex (w := w) (L := L) (G := G) (n := n) hD.1.1
  rw [Aleast_eq hS hy, Aleast_eq hT hz, Afuel_eq hLG hD hf]
  have ST : ∀ a, 0 ≤ S.1 a → 0 ≤ T.1 a ∧ T.1 a ≤ 3 * S.1 a := fun a ha => by
    obtain ⟨m, hm⟩ : ∃ m : Nat, S.1 a = (m : Int) := ⟨(S.1 a).toNat, by omega⟩
    obtain ⟨b, rfl, b4⟩ := BF.wk hS m a hm
    obtain ⟨j, j1, j2⟩ := wk31 m a b4
    have := BF.hi hT (s := b) rfl j a j2
    omega
  have TS : ∀ a, 0 ≤ T.1 a → 0 ≤ S.1 a ∧ S.1 a ≤ T.1 a := fun a ha => by
    obtain ⟨m, hm⟩ : ∃ m : Nat, T.1 a = (m : Int) := ⟨(T.1 a).toNat, by omega⟩
    obtain ⟨b, rfl, b4⟩ := BF.wk hT m a hm
    have := BF.hi hS (s := b) rfl m a (wk13 m a b4)
    omega
  have TD : ∀ a, 0 ≤ T.1 a → 0 ≤ D a ∧ D a ≤ 3 * T.1 a := fun a ha => by
    obtain ⟨m, hm⟩ : ∃ m : Nat, T.1 a = (m : Int) := ⟨(T.1 a).toNat, by omega⟩
    obtain ⟨b, rfl, b4⟩ := BF.wk hT m a hm
    have := D_hi hLG hD m a b4
    omega
  have DT : ∀ a, 0 ≤ D a → 0 ≤ T.1 a ∧ 2 * T.1 a ≤ D a := fun a ha => by
    obtain ⟨m, m1, m2⟩ := D_wk hLG hD (D a).toNat (D a).toNat a (Nat.le_refl _) (by omega)
    have := BF.hi hT (s := s) rfl m a m1
    omega
  have ly := LE_lo hy
  have lz := LE_lo hz
  have lf := LE_lo hf
  by_cases e : 0 ≤ y
  · obtain ⟨a, a1, a2, a3⟩ := LE_at hy hz (fun a ha => (ST a ha).1) e
    obtain ⟨b, b1, b2, b3⟩ := LE_at hz hy (fun a ha => (TS a ha).1) a2
    obtain ⟨c, c1, c2, c3⟩ := LE_at hz hf (fun a ha => (TD a ha).1) a2
    obtain ⟨d, d1, d2, d3⟩ := LE_at hf hz (fun a ha => (DT a ha).1) c2
    have h1 := ST a (by omega)
    have h2 := TS b (by omega)
    have h3 := TD c (by omega)
    have h4 := DT d (by omega)
    omega
  · refine Or.inl ⟨by omega, ?_, ?_⟩
    · by_cases e2 : 0 ≤ z
      · obtain ⟨b, b1, b2, b3⟩ := LE_at hz hy (fun a ha => (TS a ha).1) e2
        omega
      · omega
    · by_cases e2 : 0 ≤ f
      · obtain ⟨d, d1, d2, d3⟩ := LE_at hf hz (fun a ha => (DT a ha).1) e2
        obtain ⟨b, b1, b2, b3⟩ := LE_at hz hy (fun a ha => (TS a ha).1) d2
        omega
      · omega
/-- how many, how many out, the farthest -/
theorem A_cnt (hn : n ≤ 6) (hw : w < 33554432) (hLG : LGok L G n) (hv : VV w L G n s) : 1 ≤ Acnt w L G n s ∧ Acnt w L G n s ≤ (Aall w L G n : Int) ∧ Aall w L G n ≤ 4096 ∧ 0 ≤ Aout w L G n s ∧ Aout w L G n s ≤ Acnt w L G n s ∧ (Aout w L G n s = 0 ↔ Aleast w L G n 3 s < 0) ∧ (Aleast w L G n 3 s = 0 ↔ isE G n s = true) ∧ 0 ≤ Afar w L G n s ∧ Afar w L G n s < Acnt w L G n s ∧ (0 ≤ Aleast w L G n 3 s → Aleast w L G n 3 s ≤ Afar w L G n s) := by
  obtain ⟨M', S, -, -, hB, hS', -⟩ := fromStart_I (M := We w n s L G) (m := 3) (by decide) (We_EL hn hw hLG) rfl hv
  have hS : SrS w L G n 3 s S := hS'
  obtain ⟨d, hI⟩ := id hS
  obtain ⟨y, hy⟩ := LE_ex (w := w) (L := L) (G := G) (n := n) hS.lo
  obtain ⟨r1, r2, r3⟩ := share_rng hS hn
  have hlast := BF.last hS r1
  have hfar := Afar_eq hS (y := S.1 (S.2.getD (S.2.length - 1) 0)) ⟨_, hlast.2, rfl⟩ hlast.1
  have hcb := hB (S.2.length - 1) (by omega)
  have h0 : S.1 s = 0 := hI.2.2.2.2.2.2.1 s rfl
  have hs : s ∈ S.2 := hI.1.mem.mpr (by omega)
  rw [Acnt_eq hS, Aout_eq hS, Aleast_eq hS hy, hfar]
  have hcp := List.countP_le_length (p := isE G n) (l := S.2)
  refine ⟨by omega, by omega, r3, by omega, by omega, ?_, ?_, ?_, by omega, fun h => ?_⟩
  · constructor
    · intro h
      have h' : S.2.countP (isE G n) = 0 := by omega
      rw [List.countP_eq_zero] at h'
      rcases hy with ⟨h1, -⟩ | ⟨h1, ⟨a, a1, a2, a3⟩, -⟩
      · omega
      · exact absurd a2 (h' a (hI.1.mem.mpr (by omega)))
    · intro h
      rcases hy with ⟨h1, h2⟩ | ⟨h1, -⟩
      · have : S.2.countP (isE G n) = 0 := List.countP_eq_zero.mpr fun a ha he => by
          have h3 := h2 a (hI.1.2.1 a ha).1.1 he
          have h4 := (hI.1.2.1 a ha).2
          omega
        omega
      · omega
  · constructor
    · intro h
      rcases hy with ⟨h1, -⟩ | ⟨h1, ⟨a, a1, a2, a3⟩, -⟩
      · omega
      · have : a = s := hI.2.2.2.2.2.2.2 a (by omega)
        rw [← this]; exact a2
    · intro h
      rcases hy with ⟨h1, h2⟩ | ⟨h1, -, h2⟩
      · have := h2 s hv.1 h; omega
      · have := h2 s hv.1 h (by omega); omega
  · exact (hI.1.2.1 _ hlast.2).2
  · rcases hy with ⟨h1, -⟩ | ⟨h1, ⟨a, a1, a2, a3⟩, -⟩
    · omega
    · have := hlast.1 a (hI.1.mem.mpr (by omega))
      omega
/-- the slides that are possible lead to as many arrangements -/
theorem stp_dg {c a b : Nat} {f : Bool} (h : stp w L G n c f a = some b) : (∀ i, i ≠ c → dg b i = dg a i) ∧ if f = true then dg b c = dg a c + 1 else dg b c + 1 = dg a c := by
  cases f with
  | true =>
    rw [stp_t] at h
    by_cases e : dg a c + 1 < 4 ∧ okc w L G n (a + 4 ^ c) = true
    · rw [if_pos e] at h
      cases h
      rw [stp_up]
      exact ⟨fun i hi => by rw [dg_setd _ _ _ _ e.1, if_neg hi], by rw [if_pos rfl, dg_setd _ _ _ _ e.1, if_pos rfl]⟩
    · rw [if_neg e] at h; cases h
  | false =>
    rw [stp_f] at h
    by_cases e : 1 ≤ dg a c ∧ okc w L G n (a - 4 ^ c) = true
    · rw [if_pos e] at h
      cases h
      have h4 := dg_lt a c
      rw [(stp_down e.1).1]
      exact ⟨fun i hi => by rw [dg_setd _ _ _ _ (by omega), if_neg hi], by rw [if_neg (by decide), dg_setd _ _ _ _ (by omega), if_pos rfl]; omega⟩
    · rw [if_neg e] at h; cases h
theorem pth_dg {c : Nat} {f : Bool} : ∀ (r a v : Nat), v ∈ pth w L G n c f r a → (∀ i, i ≠ c → dg v i = dg a i) ∧ if f = true then dg a c < dg v c else dg v c < dg a c
  | 0, a, v, h => nomatch h
  | r + 1, a, v, h => by
    rw [pth_s] at h
    cases e : stp w L G n c f a with
    | none => rw [e] at h; exact nomatch h
    | some b =>
      rw [e] at h
      have h1 := stp_dg e
      rcases List.mem_cons.mp h with rfl | h
      · refine ⟨h1.1, ?_⟩
        cases f with
        | true => have := h1.2; rw [if_pos rfl] at this ⊢; omega
        | false => have := h1.2; rw [if_neg (by decide)] at this ⊢; omega
      · have h2 := pth_dg r b v h
        refine ⟨fun i hi => (h2.1 i hi).trans (h1.1 i hi), ?_⟩
        cases f with
        | true => have h3 := h1.2; have h4 := h2.2; rw [if_pos rfl] at h3 h4 ⊢; omega
        | false => have h3 := h1.2; have h4 := h2.2; rw [if_neg (by decide)] at h3 h4 ⊢; omega
theorem pth_nd {c : Nat} {f : Bool} : ∀ (r a : Nat), (pth w L G n c f r a).Nodup
  | 0, a => List.nodup_nil
  | r + 1, a => by
    rw [pth_s]
    cases e : stp w L G n c f a with
    | none => exact List.nodup_nil
    | some b =>
      refine List.nodup_cons.mpr ⟨fun h => ?_, pth_nd r b⟩
      have := (pth_dg r b b h).2
      cases f with
      | true => rw [if_pos rfl] at this; omega
      | false => rw [if_neg (by decide)] at this; omega
theorem nbF_nd {m a : Nat} : ∀ (r c : Nat), (nbF w L G n m a c r).Nodup
  | 0, c => List.nodup_nil
  | r + 1, c => by
    show (pth w L G n c true m a ++ (pth w L G n c false m a ++ nbF w L G n m a (c + 1) r)).Nodup
    have hx : ∀ v ∈ nbF w L G n m a (c + 1) r, dg v c = dg a c := fun v hv => by
      obtain ⟨k, f, k1, k2, k3⟩ := nbF_mem.mp hv
      exact (pth_dg m a v k3).1 c (by omega)
    refine List.nodup_append.mpr ⟨pth_nd m a, List.nodup_append.mpr ⟨pth_nd m a, nbF_nd r (c + 1), fun u hu v hv e => ?_⟩, fun u hu v hv e => ?_⟩
    · subst e
      have h1 := (pth_dg m a u hu).2
      rw [if_neg (by decide)] at h1
      have := hx u hv
      omega
    · subst e
      have h1 := (pth_dg m a u hu).2
      rw [if_pos rfl] at h1
      rcases List.mem_append.mp hv with hv | hv
      · have h2 := (pth_dg m a u hv).2
        rw [if_neg (by decide)] at h2
        omega
      · have := hx u hv
        omega
theorem nbF_len {m a : Nat} : ∀ (r c : Nat), (nbF w L G n m a c r).length = fb_sm (fun i => (pth w L G n (c + i) true m a).length + (pth w L G n (c + i) false m a).length) r
  | 0, c => rfl
  | r + 1, c => by
    have h1 := fb_sm_split (fun i => (pth w L G n (c + i) true m a).length + (pth w L G n (c + i) false m a).length) 1 r
    rw [Nat.add_comm 1 r] at h1
    rw [h1]
    show (pth w L G n c true m a ++ (pth w L G n c false m a ++ nbF w L G n m a (c + 1) r)).length = _
    rw [List.length_append, List.length_append, nbF_len r (c + 1)]
    have h2 : (fun k => (pth w L G n (c + (1 + k)) true m a).length + (pth w L G n (c + (1 + k)) false m a).length) = fun i => (pth w L G n (c + 1 + i) true m a).length + (pth w L G n (c + 1 + i) false m a).length := funext fun k => by rw [Nat.add_assoc]
    have hA : fb_sm (fun i => (pth w L G n (c + i) true m a).length + (pth w L G n (c + i) false m a).length) 1 = (pth w L G n c true m a).length + (pth w L G n c false m a).length := by
      show 0 + ((pth w L G n c true m a).length + (pth w L G n c false m a).length) = _
      omega
    rw [h2, hA]
    omega
theorem A_poss (hn : n ≤ 6) (hw : w < 33554432) (hLG : LGok L G n) (hv : VV w L G n s) : ((nbC w L G n 3 s).length : Int) < Acnt w L G n s := by
  obtain ⟨S, hS⟩ := SrS_ex (m := 3) (by decide) hn hw hLG hv
  obtain ⟨d, hI⟩ := id hS
  have h0 : S.1 s = 0 := hI.2.2.2.2.2.2.1 s rfl
  have hs : s ∈ S.2 := hI.1.mem.mpr (by omega)
  obtain ⟨j, j1, j2⟩ := mem_getD hs
  have hsub : ∀ v ∈ s :: nbC w L G n 3 s, v ∈ S.2 := fun v hv => by
    rcases List.mem_cons.mp hv with rfl | hv
    · exact hs
    · exact (hI.2.2.2.2.1 j j1 v (by rw [j2]; exact hv)).1
  have hnd : (s :: nbC w L G n 3 s).Nodup := List.nodup_cons.mpr ⟨fun h => by
    obtain ⟨k, f, hk, h⟩ := nbC_mem.mp h
    have := (pth_dg 3 s s h).2
    cases f with
    | true => rw [if_pos rfl] at this; omega
    | false => rw [if_neg (by decide)] at this; omega, nbF_nd n 0⟩
  have := hnd.length_le_of_subset hsub
  rw [List.length_cons] at this
  rw [Acnt_eq hS]
  omega
end MA3
end MW
