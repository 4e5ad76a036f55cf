/-! ===== a join where more was made ===== -/
section JW
variable {κ : Kx} {E : En} {f : MI} {Q : State → Prop} {k n : Nat} {L : List (Nat × Value)} {M : Wd} {pc : Nat} {st : List Value}
theorem J_joinW (k' n' : Nat) (L' : List (Nat × Value)) (M' : Wd) (pc' : Nat) (st' : List Value) (hJ : J κ E f Q k' n' L' M' pc' st') (kk : J κ E f Q k' n' L' M' pc' st' → J κ E f Q k n L M pc st) : J κ E f Q k n L M pc st := kk hJ
end JW
