/-! ===== a spreading search, and that its costs are the distances ===== -/
abbrev SS : Type := (Nat → Int) × List Nat
def vis (d : Int) (S : SS) (a : Nat) : SS := if S.1 a = -1 then (fun k => if k = a then d else S.1 k, S.2 ++ [a]) else S
def visl (d : Int) (S : SS) (l : List Nat) : SS := l.foldl (vis d) S
theorem visl_nil (d : Int) (S : SS) : visl d S [] = S := rfl
theorem visl_cons (d : Int) (S : SS) (a : Nat) (l : List Nat) : visl d S (a :: l) = visl d (vis d S a) l := rfl
theorem visl_app (d : Int) (S : SS) (l m : List Nat) : visl d S (l ++ m) = visl d (visl d S l) m := List.foldl_append
/-- what was found is just what has a cost, each once -/
def SB (V : Nat → Prop) (S : SS) : Prop := S.2.Nodup ∧ (∀ a, a ∈ S.2 → V a ∧ 0 ≤ S.1 a) ∧ ∀ a, a ∉ S.2 → S.1 a = -1
theorem SB.mem {V : Nat → Prop} {S : SS} (h : SB V S) {a : Nat} : a ∈ S.2 ↔ S.1 a ≠ -1 := by
  constructor
  · intro ha
    have := (h.2.1 a ha).2
    omega
  · intro ha
    exact Classical.byContradiction fun hh => ha (h.2.2 a hh)
theorem SB.lo {V : Nat → Prop} {S : SS} (h : SB V S) (a : Nat) : -1 ≤ S.1 a := by
  by_cases ha : a ∈ S.2
  · have := (h.2.1 a ha).2; omega
  · rw [h.2.2 a ha]; omega
theorem vis_old {d : Int} {S : SS} {a : Nat} (h : S.1 a ≠ -1) : vis d S a = S := if_neg h
theorem vis_new {d : Int} {S : SS} {a : Nat} (h : S.1 a = -1) : vis d S a = (fun k => if k = a then d else S.1 k, S.2 ++ [a]) := if_pos h
theorem SBvis {V : Nat → Prop} {S : SS} {d : Int} {a : Nat} (h : SB V S) (hd : 0 ≤ d) (hv : V a) : SB V (vis d S a) := by
  by_cases e : S.1 a = -1
  · rw [vis_new e]
    have hn : a ∉ S.2 := fun q => (h.mem.mp q) e
    refine ⟨?_, fun b hb => ?_, fun b hb => ?_⟩
    · show (S.2 ++ [a]).Nodup
      rw [List.nodup_iff_pairwise_ne, List.pairwise_append]
      refine ⟨h.1, List.pairwise_singleton _ _, fun x hx y hy => ?_⟩
      rw [List.mem_singleton.mp hy]
      exact fun q => hn (q ▸ hx)
    · show V b ∧ 0 ≤ (if b = a then d else S.1 b)
      by_cases hba : b = a
      · subst hba; rw [if_pos rfl]; exact ⟨hv, hd⟩
      · rw [if_neg hba]
        rcases List.mem_append.mp hb with h1 | h1
        · exact h.2.1 b h1
        · exact absurd (List.mem_singleton.mp h1) hba
    · show (if b = a then d else S.1 b) = -1
      have h1 : b ∉ S.2 := fun q => hb (List.mem_append_left _ q)
      have h2 : b ≠ a := fun q => hb (List.mem_append_right _ (List.mem_singleton.mpr q))
      rw [if_neg h2]
      exact h.2.2 b h1
  · rw [vis_old e]; exact h
theorem SBvisl {V : Nat → Prop} {d : Int} (hd : 0 ≤ d) : ∀ {l : List Nat} {S : SS}, SB V S → (∀ a ∈ l, V a) → SB V (visl d S l)
  | [], _, h, _ => h
  | a :: l, _, h, hl => SBvisl (l := l) hd (SBvis h hd (hl a List.mem_cons_self)) fun b hb => hl b (List.mem_cons_of_mem _ hb)
theorem nd_le {l : List Nat} {N : Nat} (h : l.Nodup) (hb : ∀ a ∈ l, a < N) : l.length ≤ N := by
  have := h.length_le_of_subset (l₂ := List.range N) (fun a ha => List.mem_range.mpr (hb a ha))
  rwa [List.length_range] at this
theorem SB.room {V : Nat → Prop} {S : SS} {N a : Nat} (h : SB V S) (hV : ∀ b, V b → b < N) (ha : V a) (e : S.1 a = -1) : S.2.length < N := by
  have h1 := (SBvis h (d := 0) (by omega) ha).1
  have h2 : ∀ b ∈ (vis 0 S a).2, b < N := fun b hb => hV b ((SBvis h (d := 0) (by omega) ha).2.1 b hb).1
  have h3 := nd_le h1 h2
  rw [vis_new e, List.length_append] at h3
  exact h3
/-- the state of a search at place i of what was found, the costs up to d -/
def BI (V Src : Nat → Prop) (nb : Nat → List Nat) (i : Nat) (d : Int) (S : SS) : Prop :=
  SB V S ∧ i ≤ S.2.length ∧ (∀ j j', j ≤ j' → j' < S.2.length → S.1 (S.2.getD j 0) ≤ S.1 (S.2.getD j' 0)) ∧ (∀ j, j < S.2.length → S.1 (S.2.getD j 0) ≤ d) ∧
  (∀ j, j < i → ∀ v ∈ nb (S.2.getD j 0), v ∈ S.2 ∧ S.1 v ≤ S.1 (S.2.getD j 0) + 1) ∧
  (∀ a ∈ S.2, 0 < S.1 a → ∃ u ∈ S.2, a ∈ nb u ∧ S.1 a = S.1 u + 1) ∧ (∀ a, Src a → S.1 a = 0) ∧ ∀ a, S.1 a = 0 → Src a
theorem getD_app {l : List Nat} {a j : Nat} (h : j < l.length) : (l ++ [a]).getD j 0 = l.getD j 0 := by
  rw [List.getD_eq_getElem?_getD, List.getD_eq_getElem?_getD, List.getElem?_append_left h]
theorem getD_last {l : List Nat} {a : Nat} : (l ++ [a]).getD l.length 0 = a := by
  rw [List.getD_eq_getElem?_getD, List.getElem?_append_right (Nat.le_refl _), Nat.sub_self]; rfl
theorem getD_mem {l : List Nat} {j : Nat} (h : j < l.length) : l.getD j 0 ∈ l := by
  rw [List.getD_eq_getElem?_getD, List.getElem?_eq_getElem h]
  exact List.getElem_mem h
theorem mem_getD {l : List Nat} {a : Nat} (h : a ∈ l) : ∃ j, j < l.length ∧ l.getD j 0 = a := by
  obtain ⟨j, hj, e⟩ := List.getElem_of_mem h
  exact ⟨j, hj, by rw [List.getD_eq_getElem?_getD, List.getElem?_eq_getElem hj]; exact e⟩
/-- what a visit keeps -/
def Grows (S T : SS) : Prop := (∀ a, S.1 a ≠ -1 → T.1 a = S.1 a) ∧ (∀ a ∈ S.2, a ∈ T.2) ∧ S.2.length ≤ T.2.length ∧ ∀ j, j < S.2.length → T.2.getD j 0 = S.2.getD j 0
theorem Grows.rf (S : SS) : Grows S S := ⟨fun _ _ => rfl, fun _ h => h, Nat.le_refl _, fun _ _ => rfl⟩
theorem Grows.tr {S T U : SS} (h : Grows S T) (h2 : Grows T U) : Grows S U :=
  ⟨fun a ha => by rw [h2.1 a (by rw [h.1 a ha]; exact ha), h.1 a ha], fun a ha => h2.2.1 a (h.2.1 a ha), Nat.le_trans h.2.2.1 h2.2.2.1, fun j hj => by rw [h2.2.2.2 j (Nat.lt_of_lt_of_le hj h.2.2.1), h.2.2.2 j hj]⟩
theorem Gvis (d : Int) (S : SS) (a : Nat) : Grows S (vis d S a) := by
  by_cases e : S.1 a = -1
  · rw [vis_new e]
    refine ⟨fun b hb => if_neg (show b ≠ a from fun q => hb (by rw [q]; exact e)), fun b hb => List.mem_append_left _ hb, ?_, fun j hj => getD_app hj⟩
    show S.2.length ≤ (S.2 ++ [a]).length
    rw [List.length_append]; omega
  · rw [vis_old e]; exact Grows.rf S
theorem Gvisl (d : Int) : ∀ (l : List Nat) (S : SS), Grows S (visl d S l)
  | [], S => Grows.rf S
  | a :: l, S => (Gvis d S a).tr (Gvisl d l _)
theorem BIvis {V Src : Nat → Prop} {nb : Nat → List Nat} {i : Nat} {S : SS} {u v : Nat} {d : Int} (h : BI V Src nb i d S) (hu : u ∈ S.2) (hd : d = S.1 u + 1) (hv : v ∈ nb u) (hV : V v) :
    BI V Src nb i d (vis d S v) ∧ v ∈ (vis d S v).2 ∧ (vis d S v).1 v ≤ d := by
  obtain ⟨h1, h2, h3, h4, h5, h6, h7, h8⟩ := h
  have hu0 : 0 ≤ S.1 u := (h1.2.1 u hu).2
  by_cases e : S.1 v = -1
  · have hn : v ∉ S.2 := fun q => (h1.mem.mp q) e
    have hg := Gvis d S v
    rw [vis_new e] at hg ⊢
    have nev : ∀ b, b ∈ S.2 → b ≠ v := fun b hb q => hn (q ▸ hb)
    have hc : ∀ b, b ≠ v → (if b = v then d else S.1 b) = S.1 b := fun b hb => if_neg hb
    have hlen : (S.2 ++ [v]).length = S.2.length + 1 := by rw [List.length_append]; rfl
    have hne : ∀ j, j < S.2.length → S.2.getD j 0 ≠ v := fun j hj q => hn (q ▸ getD_mem hj)
    refine ⟨⟨?_, ?_, fun j j' hj hj' => ?_, fun j hj => ?_, fun j hj w hw => ?_, fun a ha hpos => ?_, fun a ha => ?_, fun a ha => ?_⟩, List.mem_append_right _ (List.mem_singleton.mpr rfl), ?_⟩
    · have := SBvis h1 (d := d) (by omega) hV
      rwa [vis_new e] at this
    · show i ≤ (S.2 ++ [v]).length
      omega
    · show (if (S.2 ++ [v]).getD j 0 = v then d else S.1 ((S.2 ++ [v]).getD j 0)) ≤ (if (S.2 ++ [v]).getD j' 0 = v then d else S.1 ((S.2 ++ [v]).getD j' 0))
      have hj'2 : j' < (S.2 ++ [v]).length := hj'
      by_cases e1 : j' < S.2.length
      · rw [getD_app e1, getD_app (by omega), if_neg (hne _ e1), if_neg (hne _ (by omega))]
        exact h3 j j' hj e1
      · have e2 : j' = S.2.length := by omega
        subst e2
        rw [getD_last, if_pos rfl]
        by_cases e3 : j < S.2.length
        · rw [getD_app e3, if_neg (hne _ e3)]; exact h4 j e3
        · have : j = S.2.length := by omega
          subst this
          rw [getD_last, if_pos rfl]; omega
    · show (if (S.2 ++ [v]).getD j 0 = v then d else S.1 ((S.2 ++ [v]).getD j 0)) ≤ d
      have hj2 : j < (S.2 ++ [v]).length := hj
      by_cases e1 : j < S.2.length
      · rw [getD_app e1, if_neg (hne _ e1)]; exact h4 j e1
      · have e2 : j = S.2.length := by omega
        subst e2
        rw [getD_last, if_pos rfl]; omega
    · have hjl : j < S.2.length := by omega
      have hw' : w ∈ nb (S.2.getD j 0) := by
        have : w ∈ nb ((S.2 ++ [v]).getD j 0) := hw
        rwa [getD_app hjl] at this
      obtain ⟨g1, g2⟩ := h5 j hj w hw'
      show w ∈ S.2 ++ [v] ∧ (if w = v then d else S.1 w) ≤ (if (S.2 ++ [v]).getD j 0 = v then d else S.1 ((S.2 ++ [v]).getD j 0)) + 1
      rw [getD_app hjl, if_neg (hne _ hjl), if_neg (nev _ g1)]
      exact ⟨List.mem_append_left _ g1, g2⟩
    · show ∃ u' ∈ S.2 ++ [v], a ∈ nb u' ∧ (if a = v then d else S.1 a) = (if u' = v then d else S.1 u') + 1
      by_cases e1 : a = v
      · subst e1
        refine ⟨u, List.mem_append_left _ hu, hv, ?_⟩
        rw [if_pos rfl, if_neg (nev _ hu)]; exact hd
      · have ha1 : a ∈ S.2 := by
          rcases List.mem_append.mp ha with q | q
          · exact q
          · exact absurd (List.mem_singleton.mp q) e1
        have hp : 0 < S.1 a := by
          have : 0 < (if a = v then d else S.1 a) := hpos
          rwa [if_neg e1] at this
        obtain ⟨u', g1, g2, g3⟩ := h6 a ha1 hp
        refine ⟨u', List.mem_append_left _ g1, g2, ?_⟩
        rw [if_neg e1, if_neg (nev _ g1)]; exact g3
    · show (if a = v then d else S.1 a) = 0
      have := h7 a ha
      rw [if_neg (fun q => by rw [q, e] at this; omega)]; exact this
    · have ha' : (if a = v then d else S.1 a) = 0 := ha
      by_cases e1 : a = v
      · rw [if_pos e1] at ha'; omega
      · rw [if_neg e1] at ha'; exact h8 a ha'
    · show (if v = v then d else S.1 v) ≤ d
      rw [if_pos rfl]; omega
  · rw [vis_old e]
    refine ⟨⟨h1, h2, h3, h4, h5, h6, h7, h8⟩, h1.mem.mpr e, ?_⟩
    obtain ⟨j, hj, ej⟩ := mem_getD (h1.mem.mpr e)
    rw [← ej]; exact h4 j hj
theorem BIvisl {V Src : Nat → Prop} {nb : Nat → List Nat} {i : Nat} {u : Nat} {d : Int} : ∀ {l : List Nat} {S : SS}, BI V Src nb i d S → u ∈ S.2 → d = S.1 u + 1 → (∀ v ∈ l, v ∈ nb u ∧ V v) →
    BI V Src nb i d (visl d S l) ∧ ∀ v ∈ l, v ∈ (visl d S l).2 ∧ (visl d S l).1 v ≤ d
  | [], S, h, _, _, _ => ⟨h, fun v hv => nomatch hv⟩
  | v :: l, S, h, hu, hd, hl => by
    obtain ⟨hv, hV⟩ := hl v List.mem_cons_self
    obtain ⟨h1, h2, h3⟩ := BIvis h hu hd hv hV
    have hg := Gvis d S v
    have hu0 : S.1 u ≠ -1 := h.1.mem.mp hu
    obtain ⟨k1, k2⟩ := BIvisl (l := l) h1 (hg.2.1 u hu) (by rw [hg.1 u hu0]; exact hd) (fun w hw => hl w (List.mem_cons_of_mem _ hw))
    refine ⟨k1, fun w hw => ?_⟩
    rcases List.mem_cons.mp hw with rfl | hw
    · have hg2 := Gvisl d l (vis d S w)
      refine ⟨hg2.2.1 w h2, ?_⟩
      show (visl d (vis d S w) l).1 w ≤ d
      rw [hg2.1 w (h1.1.mem.mp h2)]; exact h3
    · exact k2 w hw
/-- a place further -/
theorem BI.next {V Src : Nat → Prop} {nb : Nat → List Nat} {i : Nat} {S : SS} {d : Int} (h : BI V Src nb i d S) (hi : i < S.2.length) (hd : d ≤ S.1 (S.2.getD i 0) + 1) (hV : ∀ v ∈ nb (S.2.getD i 0), V v) {l : List Nat} (hl : ∀ v, v ∈ l ↔ v ∈ nb (S.2.getD i 0)) :
    BI V Src nb (i + 1) (S.1 (S.2.getD i 0) + 1) (visl (S.1 (S.2.getD i 0) + 1) S l) := by
  have h0 : BI V Src nb i (S.1 (S.2.getD i 0) + 1) S := ⟨h.1, h.2.1, h.2.2.1, fun j hj => Int.le_trans (h.2.2.2.1 j hj) hd, h.2.2.2.2⟩
  obtain ⟨k1, k2⟩ := BIvisl (l := l) h0 (getD_mem hi) rfl (fun v hv => ⟨(hl v).mp hv, hV v ((hl v).mp hv)⟩)
  have hg := Gvisl (S.1 (S.2.getD i 0) + 1) l S
  obtain ⟨g1, g2, g3, g4, g5, g6⟩ := k1
  refine ⟨g1, Nat.lt_of_lt_of_le hi hg.2.2.1, g3, g4, fun j hj v hv => ?_, g6⟩
  by_cases e : j < i
  · exact g5 j e v hv
  · have e2 : j = i := by omega
    subst e2
    rw [hg.2.2.2 j hi] at hv ⊢
    obtain ⟨q1, q2⟩ := k2 v ((hl v).mpr hv)
    refine ⟨q1, ?_⟩
    rw [hg.1 _ (h.1.mem.mp (getD_mem hi))]
    exact q2
/-- the costs at the search's end -/
def BF (V Src : Nat → Prop) (nb : Nat → List Nat) (S : SS) : Prop := ∃ d, BI V Src nb S.2.length d S
theorem BF.le {V Src V' : Nat → Prop} {nb nb' : Nat → List Nat} {S T : SS} (h : BF V Src nb S) (h2 : BF V' Src nb' T) (hnb : ∀ u v, v ∈ nb u ↔ v ∈ nb' u) : ∀ (n : Nat) (a : Nat), S.1 a = (n : Int) → 0 ≤ T.1 a ∧ T.1 a ≤ (n : Int)
  | 0, a, ha => by
    obtain ⟨d, -, -, -, -, -, -, -, h8⟩ := h
    obtain ⟨d2, -, -, -, -, -, -, g7, -⟩ := h2
    have := g7 a (h8 a ha)
    omega
  | n + 1, a, ha => by
    obtain ⟨d, h1, h1b, h3, h4, h5, h6, h7, h8⟩ := id h
    obtain ⟨d2, g1, g1b, g3, g4, g5, g6, g7, g8⟩ := id h2
    have hm : a ∈ S.2 := h1.mem.mpr (by omega)
    obtain ⟨u, e1, e2, e3⟩ := h6 a hm (by omega)
    obtain ⟨k1, k2⟩ := BF.le h h2 hnb n u (by omega)
    have hu : u ∈ T.2 := g1.mem.mpr (by omega)
    obtain ⟨j, hj, ej⟩ := mem_getD hu
    obtain ⟨q1, q2⟩ := g5 j hj a (by rw [ej]; exact (hnb u a).mp e2)
    rw [ej] at q2
    have := (g1.2.1 a q1).2
    omega
theorem BF.eq {V Src V' : Nat → Prop} {nb nb' : Nat → List Nat} {S T : SS} (h : BF V Src nb S) (h2 : BF V' Src nb' T) (hnb : ∀ u v, v ∈ nb u ↔ v ∈ nb' u) : S.1 = T.1 ∧ S.2.Perm T.2 := by
  have e : ∀ a, S.1 a = T.1 a := by
    intro a
    obtain ⟨d, h1, -⟩ := id h
    obtain ⟨d2, g1, -⟩ := id h2
    have l1 := h1.lo a
    have l2 := g1.lo a
    by_cases ha : S.1 a = -1
    · by_cases hb : T.1 a = -1
      · rw [ha, hb]
      · have := BF.le h2 h (fun u v => (hnb u v).symm) (T.1 a).toNat a (by omega)
        omega
    · have q1 := BF.le h h2 hnb (S.1 a).toNat a (by omega)
      have q2 := BF.le h2 h (fun u v => (hnb u v).symm) (T.1 a).toNat a (by omega)
      omega
  refine ⟨funext e, ?_⟩
  obtain ⟨d, h1, -⟩ := id h
  obtain ⟨d2, g1, -⟩ := id h2
  refine (List.perm_ext_iff_of_nodup h1.1 g1.1).mpr fun a => ?_
  rw [h1.mem, g1.mem, e a]
/-- the last one found is a farthest one -/
theorem BF.last {V Src : Nat → Prop} {nb : Nat → List Nat} {S : SS} (h : BF V Src nb S) (h0 : 0 < S.2.length) : (∀ a ∈ S.2, S.1 a ≤ S.1 (S.2.getD (S.2.length - 1) 0)) ∧ S.2.getD (S.2.length - 1) 0 ∈ S.2 := by
  obtain ⟨d, h1, -, h3, -⟩ := h
  refine ⟨fun a ha => ?_, getD_mem (by omega)⟩
  obtain ⟨j, hj, rfl⟩ := mem_getD ha
  exact h3 j _ (by omega) (by omega)
/-- the begin: sources at cost 0 -/
theorem BI.begin {V Src : Nat → Prop} {nb : Nat → List Nat} (l : List Nat) (hV : ∀ a ∈ l, V a) (hl : ∀ a, a ∈ l ↔ Src a) : BI V Src nb 0 0 (visl 0 (fun _ => -1, []) l) := by
  have hb : SB V ((fun _ => -1, []) : SS) := ⟨List.nodup_nil, fun a ha => (nomatch ha), fun _ _ => rfl⟩
  have key : ∀ (l : List Nat) (S : SS), SB V S → (∀ a ∈ S.2, S.1 a = 0) → (∀ a ∈ l, V a) → (∀ a ∈ (visl 0 S l).2, (visl 0 S l).1 a = 0) ∧ ∀ a, a ∈ (visl 0 S l).2 ↔ a ∈ S.2 ∨ a ∈ l := by
    intro l
    induction l with
    | nil =>
      intro S _ h0 _
      exact ⟨h0, fun a => ⟨Or.inl, fun q => q.elim id (fun z => nomatch z)⟩⟩
    | cons b l ih =>
      intro S hS h0 hV
      have hS2 := SBvis hS (d := 0) (by omega) (hV b List.mem_cons_self)
      have hz : ∀ a ∈ (vis 0 S b).2, (vis 0 S b).1 a = 0 := by
        intro a ha
        by_cases e : S.1 b = -1
        · rw [vis_new e] at ha ⊢
          show (if a = b then (0 : Int) else S.1 a) = 0
          by_cases e2 : a = b
          · rw [if_pos e2]
          · rw [if_neg e2]
            rcases List.mem_append.mp ha with q | q
            · exact h0 a q
            · exact absurd (List.mem_singleton.mp q) e2
        · rw [vis_old e] at ha ⊢; exact h0 a ha
      obtain ⟨k1, k2⟩ := ih (vis 0 S b) hS2 hz (fun a ha => hV a (List.mem_cons_of_mem _ ha))
      refine ⟨k1, fun a => ?_⟩
      show a ∈ (visl 0 (vis 0 S b) l).2 ↔ _
      rw [k2 a, List.mem_cons]
      have hm : a ∈ (vis 0 S b).2 ↔ a ∈ S.2 ∨ a = b := by
        by_cases e : S.1 b = -1
        · rw [vis_new e]
          show a ∈ S.2 ++ [b] ↔ _
          rw [List.mem_append, List.mem_singleton]
        · rw [vis_old e]
          exact ⟨Or.inl, fun q => q.elim id (fun z => z ▸ hS.mem.mpr e)⟩
      rw [hm]
      constructor
      · rintro ((q | q) | q)
        · exact Or.inl q
        · exact Or.inr (Or.inl q)
        · exact Or.inr (Or.inr q)
      · rintro (q | q | q)
        · exact Or.inl (Or.inl q)
        · exact Or.inl (Or.inr q)
        · exact Or.inr q
  obtain ⟨k1, k2⟩ := key l (fun _ => -1, []) hb (fun a ha => nomatch ha) hV
  have hSB := SBvisl (d := 0) (by omega) hb hV
  have hz : ∀ j, j < (visl 0 (fun _ => -1, []) l).2.length → (visl 0 (fun _ => -1, []) l).1 ((visl 0 (fun _ => -1, []) l).2.getD j 0) = 0 := fun j hj => k1 _ (getD_mem hj)
  refine ⟨hSB, Nat.zero_le _, fun j j' hj hj' => ?_, fun j hj => ?_, fun j hj => by omega, fun a ha hp => ?_, fun a ha => ?_, fun a ha => ?_⟩
  · rw [hz j (by omega), hz j' hj']; omega
  · rw [hz j hj]; omega
  · rw [k1 a ha] at hp; omega
  · exact k1 a ((k2 a).mpr (Or.inr ((hl a).mpr ha)))
  · have hm := (SB.mem hSB (a := a)).mpr (by rw [ha]; omega)
    rcases (k2 a).mp hm with q | q
    · exact nomatch q
    · exact (hl a).mp q
