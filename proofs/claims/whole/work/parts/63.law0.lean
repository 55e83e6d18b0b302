theorem kk_arr {s : State} {ty : FieldType} {A : Array Value} (h : (Cond.arrayClass ty).before A s = true) : ∃ c : ClassId, s.vm.findClass ("[" ++ ty.toString) = some c ∧ ∃ (k : Class) (comp : ClassId), s.vm.classes[c]? = some k ∧ k.kind = .array comp ty := by
  obtain ⟨c, k, comp, h1, h2, h3⟩ := Cond.arrayClass_spec h
  exact ⟨c, h1, k, comp, h2, h3⟩
theorem kk_T {s : State} {ty : FieldType} {c : ClassId} {k : Class} {comp : ClassId} (h2 : s.vm.classes[c]? = some k) (h3 : k.kind = .array comp ty) : ArrOfT s c ty := fun n z => ⟨fun k h => (by cases h), k, h2, comp, h3⟩
theorem kk_start {s : State} {A : Array Value} (hts : ∀ w ∈ lw_tbl, w.before A s = true) (ha1 : (Cond.arrayOver (.object "MorphWords$Letters")).before A s = true) (ha2 : (Cond.arrayOver (.object "MorphWords$State")).before A s = true) : ∃ D : GG, KK D s := by
  have hg : ∀ w ∈ gtbl, w.before A s = true := fun w hw => hts w (gtbl_in hw)
  have hc : ∀ c : Nat, ∃ (cC : ClassId) (iS : Nat → Nat), ∀ q : vw_C, classes[c]? = some q → u_Kn s q.1 q.2.1 q.2.2 cC iS := by
    have one : ∀ {ci : Nat} {C : String} {T : u_T} {N : Nat} {tf : Nat → FieldType}, Cl ci C T N tf → Cond.instantiable C N ∈ gtbl → ∃ (cC : ClassId) (iS : Nat → Nat), ∀ q : vw_C, classes[ci]? = some q → u_Kn s q.1 q.2.1 q.2.2 cC iS := by
      intro ci C T N tf hcl hi
      obtain ⟨cC, iS, hk⟩ := u_known hg hcl.2.1 (hg _ hi)
      exact ⟨cC, iS, fun q hq => by rw [hcl.1] at hq; cases hq; exact hk⟩
    intro c
    rcases (show c = 0 ∨ c = 1 ∨ c = 2 ∨ c = 3 ∨ c = 4 ∨ c = 5 ∨ c = 6 ∨ c = 7 ∨ c = 8 ∨ c = 9 ∨ c = 10 ∨ c = 11 ∨ 12 ≤ c by omega) with rfl | rfl | rfl | rfl | rfl | rfl | rfl | rfl | rfl | rfl | rfl | rfl | h
    · exact one cl_GR g_192
    · exact one cl_HI g_135
    · exact one cl_LE g_89
    · exact one cl_LM g_207
    · exact one cl_PT g_179
    · exact one cl_PW g_167
    · exact one cl_RT g_219
    · exact one cl_RU g_83
    · exact one cl_ST g_77
    · exact one cl_TX g_150
    · exact one cl_MW g_69
    · exact one cl_MO g_752
    · refine ⟨0, fun _ => 0, fun q hq => ?_⟩
      have hlt := (List.getElem?_eq_some_iff.mp hq).1
      have hz : classes.length = 12 := rfl
      omega
  obtain ⟨c0, a0, k0, p0, q0, r0⟩ := kk_arr (hg _ g_104)
  obtain ⟨c1, a1, k1, p1, q1, r1⟩ := kk_arr (hg _ g_190)
  obtain ⟨c2, a2, k2, p2, q2, r2⟩ := kk_arr (hg _ g_161)
  obtain ⟨p3, c3, k3, a3, b3, q3, r3, e3⟩ := Cond.arrayOver_spec ha1
  obtain ⟨p4, c4, k4, a4, b4, q4, r4, e4⟩ := Cond.arrayOver_spec ha2
  refine ⟨((fun c => Classical.choose (hc c), fun c => Classical.choose (Classical.choose_spec (hc c))), fun j => if j = 0 then c0 else if j = 1 then c1 else if j = 2 then c2 else if j = 3 then c3 else c4), ⟨fun c q hq => Classical.choose_spec (Classical.choose_spec (hc c)) q hq, ?_⟩, ?_, va_AO.of ha1, va_AO.of ha2⟩
  · intro k q hk
    have hlt := (List.getElem?_eq_some_iff.mp hk).1
    have hz : ∀ D : GG, (tys D).length = 5 := fun _ => rfl
    rw [hz] at hlt
    rcases (show k = 0 ∨ k = 1 ∨ k = 2 ∨ k = 3 ∨ k = 4 by omega) with rfl | rfl | rfl | rfl | rfl
    · cases hk; exact ⟨kk_T q0 r0, a0⟩
    · cases hk; exact ⟨kk_T q1 r1, a1⟩
    · cases hk; exact ⟨kk_T q2 r2, a2⟩
    · cases hk; exact ⟨kk_T q3 r3, k3, p3, q3, r3, a3, e3⟩
    · cases hk; exact ⟨kk_T q4 r4, k4, p4, q4, r4, a4, e4⟩
  · intro q hq
    exact va_Nw.of rfl (hts _ (nests_in q hq))
