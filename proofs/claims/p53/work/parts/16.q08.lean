/-! ===== the model's whole searches by slides ===== -/
section XN
variable {w n : Nat} {L G : Nat → Nat} {M : Wd} {S : SS}
/-- neighbours by cars c to c + r, back first -/
def nbH (w : Nat) (L G : Nat → Nat) (n m a : Nat) : Nat → Nat → List Nat
  | _, 0 => []
  | c, r + 1 => pth w L G n c false m a ++ (pth w L G n c true m a ++ nbH w L G n m a (c + 1) r)
theorem nbH_mem {m a v : Nat} : ∀ {r c : Nat}, v ∈ nbH w L G n m a c r ↔ ∃ k f, c ≤ k ∧ k < c + r ∧ v ∈ pth w L G n k f m a
  | 0, c => ⟨fun h => (nomatch h), fun ⟨k, _, h1, h2, _⟩ => by omega⟩
  | r + 1, c => by
    unfold nbH
    rw [List.mem_append, List.mem_append, nbH_mem]
    constructor
    · rintro (h | h | ⟨k, f, h1, h2, h3⟩)
      · exact ⟨c, false, by omega, by omega, h⟩
      · exact ⟨c, true, by omega, by omega, h⟩
      · exact ⟨k, f, by omega, by omega, h3⟩
    · rintro ⟨k, f, h1, h2, h3⟩
      by_cases e : k = c
      · subst e
        cases f with
        | true => exact Or.inr (Or.inl h3)
        | false => exact Or.inl h3
      · exact Or.inr (Or.inr ⟨k, f, by omega, by omega, h3⟩)
def nbM (w : Nat) (L G : Nat → Nat) (n m a : Nat) : List Nat := nbH w L G n m a 0 n
theorem nbCM (m u v : Nat) : v ∈ nbC w L G n m u ↔ v ∈ nbM w L G n m u := by
  unfold nbC nbM
  rw [nbF_mem, nbH_mem]
theorem nbH_ok {m a r c : Nat} (ha : a < 4 ^ n) (hc : c + r ≤ n) : ∀ v ∈ nbH w L G n m a c r, VV w L G n v := by
  intro v hv
  obtain ⟨k, f, h1, h2, h3⟩ := nbH_mem.mp hv
  exact pth_ok (by omega) ha v h3
end XN
/-! ===== both find the same ===== -/
theorem BF_same {w n m : Nat} {L G : Nat → Nat} {Src : Nat → Prop} {S T : SS} (h : BF (VV w L G n) Src (nbC w L G n m) S) (h2 : BF (VV w L G n) Src (nbM w L G n m) T) : S.1 = T.1 ∧ S.2.Perm T.2 := BF.eq h h2 (fun u v => nbCM m u v)
