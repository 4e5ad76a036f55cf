/-! ===== CarTangos's constructor ===== -/
theorem dv_X0 : ∀ j, j < 12 → defaultValue (tyX0 j) = vp_V [.null, .null, .null, .null, .null, .null, .int 0, .int 0, .int 0, .int 0, .int 0, .int 0] j := fun j hj => by
  rcases (show j = 0 ∨ j = 1 ∨ j = 2 ∨ j = 3 ∨ j = 4 ∨ j = 5 ∨ j = 6 ∨ j = 7 ∨ j = 8 ∨ j = 9 ∨ j = 10 ∨ j = 11 by omega) with rfl | rfl | rfl | rfl | rfl | rfl | rfl | rfl | rfl | rfl | rfl | rfl <;> rfl
theorem dv_X1 : ∀ j, j < 10 → defaultValue (tyX1 j) = vp_V [.null, .null, .null, .null, .null, .int 0, .int 0, .int 0, .int 0, .int 0] j := fun j hj => by
  rcases (show j = 0 ∨ j = 1 ∨ j = 2 ∨ j = 3 ∨ j = 4 ∨ j = 5 ∨ j = 6 ∨ j = 7 ∨ j = 8 ∨ j = 9 by omega) with rfl | rfl | rfl | rfl | rfl | rfl | rfl | rfl | rfl | rfl <;> rfl
theorem dv_X2 : ∀ j, j < 2 → defaultValue (tyX2 j) = vp_V [.null, .int 0] j := fun j hj => by
  rcases (show j = 0 ∨ j = 1 by omega) with rfl | rfl <;> rfl
theorem dv_X3 : ∀ j, j < 7 → defaultValue (tyX3 j) = vp_V [.null, .null, .null, .null, .null, .int 0, .int 0] j := fun j hj => by
  rcases (show j = 0 ∨ j = 1 ∨ j = 2 ∨ j = 3 ∨ j = 4 ∨ j = 5 ∨ j = 6 by omega) with rfl | rfl | rfl | rfl | rfl | rfl | rfl <;> rfl
def Aq (E : En) (c : Nat) : va_E := .inl (E.2.2.1 1, 5, .inr (.inr (.inr (.inr (fun j => if j < c then some (adr E (14 + 6 * j)) else none)))))
/-- all as at the start but the object and the array of parks -/
def nf (E : En) (F A : va_E) : Nat → va_E := gs (gs (jc E W0) 13 A) 0 F
section NF
variable {E : En} {F F' A A' P : va_E} {i b t : Nat} {κ : Kx} {f : MI} {Q : State → Prop} {k n pc : Nat} {L : List (Nat × Value)} {g g' : Nat → va_E} {st : List Value}
theorem N_cong (h : ∀ i, i < t → g i = g' i) (kk : JN κ E f Q k n L g' t pc st) : JN κ E f Q k n L g t pc st := by
  intro hC hz H locs ls hP hS hl
  rw [mkP_cong h] at hP
  exact kk hC hz H locs ls hP hS hl
theorem N_congA (h : ∀ i, i < t → ∀ H : Heap, va_at E.2.1 vwCl (adr E i, g i) H → va_at E.2.1 vwCl (adr E i, g' i) H) (kk : JN κ E f Q k n L g' t pc st) : JN κ E f Q k n L g t pc st := by
  intro hC hz H locs ls hP hS hl
  refine kk hC hz H locs ls (fun j q hq => ?_) hS hl
  obtain ⟨h1, rfl⟩ := mkP_at hq
  exact h j h1 H (hP j _ (mkP_get h1))
theorem nf_0 : nf E F A 0 = F := gs_s
theorem nf_13 : nf E F A 13 = A := (gs_n (by decide)).trans gs_s
theorem nf_o (h0 : i ≠ 0) (h1 : i ≠ 13) : nf E F A i = jc E W0 i := (gs_n h0).trans (gs_n h1)
theorem nf_put0 : gs (nf E F A) 0 F' i = nf E F' A i := by
  by_cases e : i = 0
  · rw [e, gs_s, nf_0]
  · rw [gs_n e]; unfold nf; rw [gs_n e, gs_n e]
theorem nf_obj (hb : 0 < b) (hi : b > 13 ∨ i < 13) : gB E (gs (nf E F A) b P) b i = nf E F A i := by
  by_cases e : i < b
  · rw [gB_lo e, gs_n (by omega)]
  · rw [gB_hi (by omega), nf_o (by omega) (by omega)]
theorem nf_set13 : gs (nf E F A) 13 A' i = nf E F A' i := by
  by_cases e : i = 13
  · rw [e, gs_s, nf_13]
  · rw [gs_n e]; unfold nf
    by_cases e0 : i = 0
    · rw [e0, gs_s, gs_s]
    · rw [gs_n e0, gs_n e0, gs_n e, gs_n e]
theorem nf_new13 : gs (nf E F A) 13 (.inl (E.2.2.1 1, 5, .inr (.inr (.inr (.inr (fun _ => none)))))) i = nf E F (Aq E 0) i := by
  rw [nf_set13]
  congr 1
theorem nf_put13 (c : Nat) : gs (nf E F A) 13 (.inl (E.2.2.1 1, 5, .inr (.inr (.inr (.inr (va_up (fun j => if j < c then some (adr E (14 + 6 * j)) else none) c (some (adr E (14 + 6 * c))))))))) i = nf E F (Aq E (c + 1)) i := by
  rw [nf_set13]
  unfold Aq
  have e : va_up (fun j => if j < c then some (adr E (14 + 6 * j)) else none) c (some (adr E (14 + 6 * c))) = (fun j => if j < c + 1 then some (adr E (14 + 6 * j)) else none) := by
    funext j
    unfold va_up
    by_cases h1 : j = c
    · rw [if_pos h1, if_pos (by omega), h1]
    · rw [if_neg h1]
      show (if j < c then some (adr E (14 + 6 * j)) else none) = (if j < c + 1 then some (adr E (14 + 6 * j)) else none)
      by_cases h2 : j < c
      · rw [if_pos h2, if_pos (by omega)]
      · rw [if_neg h2, if_neg (by omega)]
  rw [e]
theorem nf_end {H : Heap} (i : Nat) (h : va_at E.2.1 vwCl (adr E i, nf E (.inr (3, [.ref (adr E 1), .ref (adr E 7), .ref (adr E 13), .ref (adr E 44), .ref (adr E 51), .int 0, .int 0])) (Aq E 5) i) H) : va_at E.2.1 vwCl (adr E i, jc E W0 i) H := by
  by_cases e0 : i = 0
  · rw [e0, nf_0] at h; rw [e0]; exact h
  · by_cases e1 : i = 13
    · rw [e1, nf_13] at h; rw [e1]
      have h1 : H[adr E 13]? = some (arrV (E.2.2.1 1) 5 (fun j => va_rf (if j < 5 then some (adr E (14 + 6 * j)) else none))) := h
      show H[adr E 13]? = some (arrV (E.2.2.1 1) 5 (fun j => va_rf (some (adr E (14 + 6 * j)))))
      rw [h1]
      congr 1
    · rw [nf_o e0 e1] at h; exact h
end NF
theorem wi_38 : Cond.methodLink RX3 1 Lib.objectInit ∈ SWL := SWL_mem 38 (by decide +kernel) rfl
theorem wi_41 : Cond.classLink RX3 7 RX1 ∈ SWL := SWL_mem 41 (by decide +kernel) rfl
theorem wi_42 : Cond.instantiable RX1 10 ∈ SWL := SWL_mem 42 (by decide +kernel) rfl
theorem wi_43 : Cond.methodLinkNest RX3 9 yX1_init "CarTangos" ∈ SWL := SWL_mem 43 (by decide +kernel) rfl
theorem wi_93 : Cond.classLink RX3 23 RX0 ∈ SWL := SWL_mem 93 (by decide +kernel) rfl
theorem wi_94 : Cond.instantiable RX0 12 ∈ SWL := SWL_mem 94 (by decide +kernel) rfl
theorem wi_95 : Cond.methodLinkNest RX3 25 yX0_init "CarTangos" ∈ SWL := SWL_mem 95 (by decide +kernel) rfl
theorem wi_140 : Cond.classLink RX3 30 RX2 ∈ SWL := SWL_mem 140 (by decide +kernel) rfl
theorem wi_141 : Cond.instantiable RX2 2 ∈ SWL := SWL_mem 141 (by decide +kernel) rfl
theorem wi_142 : Cond.methodLinkNest RX3 32 yX2_init "CarTangos" ∈ SWL := SWL_mem 142 (by decide +kernel) rfl
theorem wi_154 : Cond.fieldLink RX3 10 RX3 "now" "LCarTangos$Park;" ∈ SWL := SWL_mem 154 (by decide +kernel) rfl
theorem wi_155 : Cond.fieldLink RX3 16 RX3 "kept" "LCarTangos$Park;" ∈ SWL := SWL_mem 155 (by decide +kernel) rfl
theorem wi_156 : Cond.fieldLink RX3 19 RX3 "saved" "[LCarTangos$Park;" ∈ SWL := SWL_mem 156 (by decide +kernel) rfl
theorem wi_157 : Cond.fieldLink RX3 26 RX3 "explorer" "LCarTangos$Explorer;" ∈ SWL := SWL_mem 157 (by decide +kernel) rfl
theorem wi_158 : Cond.fieldLink RX3 33 RX3 "text" "LCarTangos$WorksText;" ∈ SWL := SWL_mem 158 (by decide +kernel) rfl
theorem wi_159 : Cond.fieldLink RX3 37 RX3 "savedCount" "I" ∈ SWL := SWL_mem 159 (by decide +kernel) rfl
theorem wi_160 : Cond.fieldLink RX3 41 RX3 "hasKept" "Z" ∈ SWL := SWL_mem 160 (by decide +kernel) rfl
