theorem ltr_i {x : Int} : (97 ≤ x ∧ x ≤ 100) ↔ ¬ ltr x = -1 := by unfold ltr; split <;> omega
theorem ltr_v {x : Int} (h : ¬ ltr x = -1) : ltr x = x - 97 ∧ 0 ≤ x - 97 ∧ x - 97 < 4 := by unfold ltr at *; split <;> (rename_i q; first | omega | (rw [if_neg q] at h; exact absurd rfl h))
theorem ca_r {L : List Int} (h : ∀ x ∈ L, 0 ≤ x ∧ x < 65536) {z : Int} (h0 : 0 ≤ z) (h1 : z < (L.length : Int)) : 0 ≤ gA L z ∧ gA L z < 65536 := gA_m (P := fun x => 0 ≤ x ∧ x < 65536) h h0 h1
theorem dr_c {L : List Int} {k : Int} (h0 : 0 ≤ k) (h1 : k < (L.length : Int)) : L.drop k.toNat = gA L k :: L.drop (k + 1).toNat := by
  have hg := gA_get (L := L) h0 h1
  rw [show (k + 1).toNat = k.toNat + 1 by omega]
  rw [List.getElem?_eq_getElem (by omega)] at hg
  rw [← Option.some.inj hg]
  exact List.drop_eq_getElem_cons (by omega)
theorem dr_n {L : List Int} {k : Int} (h1 : (L.length : Int) ≤ k) : L.drop k.toNat = [] := List.drop_eq_nil_of_le (by omega)
def pm (L : List Int) (k : Int) : List Int := (tk L k).map (fun x => x - 97)
theorem pm_len {L : List Int} {k : Int} (h0 : 0 ≤ k) (h1 : k ≤ (L.length : Int)) : ((pm L k).length : Int) = k := by
  unfold pm
  rw [List.length_map]
  exact tk_len h0 h1
theorem pm_g {L : List Int} {k j : Int} (h0 : 0 ≤ j) (h1 : j < k) (h2 : k ≤ (L.length : Int)) : gA (pm L k) j = gA L j - 97 := by
  have hl := tk_len (L := L) (i := k) (by omega) h2
  unfold pm
  rw [gA_map h0 (by omega), gA_tk h0 h1]
theorem pm_s {L : List Int} {k : Int} (h0 : 0 ≤ k) (h1 : k < (L.length : Int)) : pm L (k + 1) = pm L k ++ [gA L k - 97] := by
  unfold pm
  rw [tk_succ h0 h1, List.map_append]
  rfl
theorem pau_s {L : List Int} {k : Int} (h0 : 0 ≤ k) (h1 : k < (L.length : Int)) (hk : k < 20) (hl : ¬ ltr (gA L k) = -1) : pau (L.drop k.toNat) (pm L k) k = pau (L.drop (k + 1).toNat) (pm L (k + 1)) (k + 1) := by
  rw [dr_c h0 h1, pau, if_pos ⟨hl, by rw [pm_len h0 (by omega)]; exact hk⟩, (ltr_v hl).1, pm_s h0 h1]
theorem pau_x {L : List Int} {k : Int} (h0 : 0 ≤ k) (h1 : k < (L.length : Int)) (h : 20 ≤ k ∨ ltr (gA L k) = -1) : pau (L.drop k.toNat) (pm L k) k = (k, pm L k) := by
  rw [dr_c h0 h1, pau, if_neg]
  rintro ⟨q1, q2⟩
  rw [pm_len h0 (by omega)] at q2
  rcases h with h | h
  · omega
  · exact q1 h
theorem pau_z {L : List Int} {k : Int} (h1 : (L.length : Int) ≤ k) : pau (L.drop k.toNat) (pm L k) k = (if 0 < k then -1 else k, pm L k) := by rw [dr_n h1, pau]
theorem tx_push {f : Int → Int} {L : List Int} {a : Int} (h : ∀ j : Int, 0 ≤ j → j < (L.length : Int) → f j = gA L j) : ∀ j : Int, 0 ≤ j → j < ((L ++ [a]).length : Int) → zU f ((L.length : Int)) a j = gA (L ++ [a]) j := by
  intro j p q
  rw [snoc_len] at q
  by_cases hj : j = (L.length : Int)
  · subst hj
    rw [zU_s, gA_snoc]
  · rw [zU_n _ _ hj, gA_app1 p (by omega)]
    exact h j p (by omega)
