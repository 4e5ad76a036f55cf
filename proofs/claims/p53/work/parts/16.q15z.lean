/-! ===== that there are answers: a world with the class's table alone; least fuel by paths ===== -/
section PX
variable {w n s : Nat} {L G : Nat → Nat}
def We (w n s : Nat) (L G : Nat → Nat) : Wd := (fun c k => if c = 44 then (if k = 6 then iI (n : Int) else if k = 7 then iI ((4 ^ n : Nat) : Int) else iI (s : Int)) else if c = 45 then iI (G k : Int) else tbv w L G n k, fun _ _ => 0, fun _ => 0)
theorem We_EL (hn : n ≤ 6) (hw : w < 33554432) (hLG : LGok L G n) : EL w n L G (We w n s L G) := ⟨⟨hn, hw, hLG⟩, rfl, rfl, fun _ _ => rfl, fun _ _ => rfl⟩
/-- a path of m steps of cars and of this fuel -/
def Pw (w : Nat) (L G : Nat → Nat) (n s : Nat) : Nat → Nat → Nat → Prop
  | 0, a, k => a = s ∧ k = 0
  | m + 1, a, k => ∃ u g k' : Nat, Pw w L G n s m u k' ∧ Edg w L G n u a (g : Int) ∧ k = k' + g
theorem Pw_vv (hv : VV w L G n s) : ∀ (m a k : Nat), Pw w L G n s m a k → VV w L G n a
  | 0, a, k, h => by rw [h.1]; exact hv
  | m + 1, a, k, ⟨u, g, k', h1, h2, _⟩ => h2.v (Pw_vv hv m u k' h1)
def IsM (w : Nat) (L G : Nat → Nat) (n s a : Nat) (d : Int) : Prop := (d = -1 ∧ ∀ m k, ¬ Pw w L G n s m a k) ∨ ∃ k : Nat, d = (k : Int) ∧ (∃ m, Pw w L G n s m a k) ∧ ∀ m k', Pw w L G n s m a k' → k ≤ k'
theorem nat_least {p : Nat → Prop} : ∀ (b k : Nat), k ≤ b → p k → ∃ j, p j ∧ ∀ i, p i → j ≤ i
  | 0, k, hk, h => ⟨k, h, fun i _ => by omega⟩
  | b + 1, k, hk, h => by
    by_cases e : ∃ i, p i ∧ i < k
    · obtain ⟨i, h1, h2⟩ := e
      exact nat_least b i (by omega) h1
    · exact ⟨k, h, fun i hi => by
        by_cases e2 : i < k
        · exact absurd ⟨i, hi, e2⟩ e
        · omega⟩
theorem IsM_ex (a : Nat) : ∃ d, IsM w L G n s a d := by
  by_cases e : ∃ k m, Pw w L G n s m a k
  · obtain ⟨k, m, h⟩ := e
    obtain ⟨j, ⟨m', h1⟩, h2⟩ := nat_least (p := fun k => ∃ m, Pw w L G n s m a k) k k (Nat.le_refl _) ⟨m, h⟩
    exact ⟨(j : Int), Or.inr ⟨j, rfl, ⟨m', h1⟩, fun m k' h => h2 k' ⟨m, h⟩⟩⟩
  · exact ⟨-1, Or.inl ⟨rfl, fun m k h => e ⟨k, m, h⟩⟩⟩
theorem D_ex (hn : n ≤ 6) (hw : w < 33554432) (hLG : LGok L G n) (hv : VV w L G n s) : ∃ D, IsD w L G n s D := by
  obtain ⟨D, hD⟩ : ∃ D : Nat → Int, ∀ a, IsM w L G n s a (D a) := ⟨fun a => Classical.choose (IsM_ex a), fun a => Classical.choose_spec (IsM_ex a)⟩
  refine ⟨D, ⟨fun a => ?_, fun a ha => ?_, ?_, fun a ha => ?_⟩, fun u v g he hu => ?_⟩
  · rcases hD a with ⟨h, -⟩ | ⟨k, h, -⟩ <;> omega
  · rcases hD a with ⟨h, -⟩ | ⟨k, h, ⟨m, hm⟩, -⟩
    · omega
    · exact Pw_vv hv m a k hm
  · rcases hD s with ⟨h, h2⟩ | ⟨k, h, -, h2⟩
    · exact absurd ⟨rfl, rfl⟩ (h2 0 0)
    · have := h2 0 0 ⟨rfl, rfl⟩
      omega
  · rcases hD a with ⟨h, -⟩ | ⟨k, h, ⟨m, hm⟩, -⟩
    · omega
    · match m, hm with
      | 0, hm => exact Or.inl hm.1
      | m + 1, ⟨u, g, k', h1, h2, h3⟩ =>
        refine Or.inr ⟨u, (g : Int), h2, ?_⟩
        rcases hD u with ⟨-, h5⟩ | ⟨ku, h4, -, h5⟩
        · exact absurd h1 (h5 m k')
        · have := h5 m k' h1
          omega
  · obtain ⟨c, f, hc, hs, hg⟩ := id he
    rcases hD u with ⟨h, -⟩ | ⟨k, h, ⟨m, hm⟩, -⟩
    · omega
    · have hp : Pw w L G n s (m + 1) v (k + G c) := ⟨u, G c, k, hm, ⟨c, f, hc, hs, rfl⟩, rfl⟩
      rcases hD v with ⟨-, h5⟩ | ⟨kv, h4, -, h5⟩
      · exact absurd hp (h5 _ _)
      · have := h5 _ _ hp
        omega
theorem fS_ex {m : Nat} (hm : m < 1000) (hn : n ≤ 6) (hw : w < 33554432) (hLG : LGok L G n) (hv : VV w L G n s) : ∃ S, BF (VV w L G n) (fun a => a = s) (nbC w L G n m) S := by
  obtain ⟨M', S, -, -, -, h4, -⟩ := fromStart_I (M := We w n s L G) hm (We_EL hn hw hLG) rfl hv
  exact ⟨S, h4⟩
theorem fE_ex (hn : n ≤ 6) (hw : w < 33554432) (hLG : LGok L G n) (hv : VV w L G n s) : ∃ S, BF (VV w L G n) (fun a => a < 4 ^ n ∧ isE G n a = true ∧ okc w L G n a = true) (nbC w L G n 3) S := by
  obtain ⟨M', S, -, -, -, h4, -⟩ := fromEnds_I (M := We w n s L G) (We_EL hn hw hLG) rfl hv
  exact ⟨S, h4⟩
end PX
