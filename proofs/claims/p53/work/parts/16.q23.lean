theorem CI.upl {S : Wst} {M : Wd} {c k : Nat} {v : Int64} (h : CI S M) : CI S (upL M c k v) := h
theorem upL_62 {M : Wd} {v : Int64} : (upL M 62 0 v).2.1 62 0 = v := rfl
