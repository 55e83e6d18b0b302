def rpX (T : Int → Int) (c : Int → List Int) (l : Int) : Prop := ∀ i : Int, 0 ≤ i → i < 4 → i ≠ l → T (9 * i) = ((c i).length : Int) ∧ ∀ k : Int, 0 ≤ k → k < ((c i).length : Int) → T (9 * i + 1 + k) = gA (c i) k
theorem rpX_of {T : Int → Int} {c : Int → List Int} {l : Int} (h : rpR T c) : rpX T c l := fun i a b _ => h i a b
theorem rpX_z {T : Int → Int} {c : Int → List Int} {l j a : Int} (h : rpX T c l) (hc : okR c) (hl : 0 ≤ l) (hj : 9 * l ≤ j ∧ j < 9 * l + 9) : rpX (zU T j a) c l := by
  intro i p q r
  have := hc i p q
  exact ⟨by rw [zU_n _ _ (by omega)]; exact (h i p q r).1, fun k s t => by rw [zU_n _ _ (by omega)]; exact (h i p q r).2 k s t⟩
theorem rpX_end {T : Int → Int} {c : Int → List Int} {l n : Int} {X : List Int} (h : rpX T c l) (hc : okR c) (hl : 0 ≤ l) (hk : rpK T X l n) (hn : n = (X.length : Int)) : rpR (zU T (9 * l) n) (zU c l X) := by
  intro i p q
  by_cases hi : i = l
  · subst hi
    rw [zU_s, zU_s]
    exact ⟨hn, fun k r s => by rw [zU_n _ _ (by omega)]; exact hk k r (by omega)⟩
  · rw [zU_n _ _ hi]
    exact rpX_z h hc hl ⟨by omega, by omega⟩ i p q hi
theorem zU_2 {α : Type} {f : Int → α} {l : Int} {a b : α} : zU (zU f l a) l b = zU f l b := by
  funext j
  by_cases h : j = l
  · subst h; rw [zU_s, zU_s]
  · rw [zU_n _ _ h, zU_n _ _ h, zU_n _ _ h]
theorem okR_z {c : Int → List Int} {l : Int} {X : List Int} (h : okR c) (hX : 1 ≤ (X.length : Int) ∧ (X.length : Int) ≤ 8 ∧ wf X) : okR (zU c l X) := by
  intro i p q
  by_cases hi : i = l
  · subst hi; rw [zU_s]; exact hX
  · rw [zU_n _ _ hi]; exact h i p q
theorem pt_a {L : List Int} {l k : Int} {c : Int → List Int} (h0 : 0 ≤ k) (h1 : k < (L.length : Int)) (h : ¬ ltr (gA L k) = -1) : aut (L.drop k.toNat) 0 l c k = aut (L.drop (k + 1).toNat) 1 (gA L k - 97) (zU c (gA L k - 97) []) (k + 1) := by
  rw [dr_c h0 h1, aut_a h, (ltr_v h).1]
theorem pt_af {L : List Int} {l k : Int} {c : Int → List Int} (h0 : 0 ≤ k) (h : ¬ (k < (L.length : Int) ∧ ¬ ltr (gA L k) = -1)) : aut (L.drop k.toNat) 0 l c k = (k, c) := by
  by_cases h1 : k < (L.length : Int)
  · rw [dr_c h0 h1, aut_e (fun _ => Classical.not_not.mp fun w => h ⟨h1, w⟩) (fun q => by omega) (fun q => by omega)]
  · rw [dr_n (by omega), aut, if_neg (by omega)]
theorem pt_b {L : List Int} {l k : Int} {c : Int → List Int} (h0 : 0 ≤ k) (h1 : k < (L.length : Int)) (h : gA L k = 61) : aut (L.drop k.toNat) 1 l c k = aut (L.drop (k + 1).toNat) 2 l c (k + 1) := by
  rw [dr_c h0 h1, aut_b h]
theorem pt_bf {L : List Int} {l k : Int} {c : Int → List Int} (h0 : 0 ≤ k) (h : k < (L.length : Int) → ¬ gA L k = 61) : aut (L.drop k.toNat) 1 l c k = (k, c) := by
  by_cases h1 : k < (L.length : Int)
  · rw [dr_c h0 h1, aut_e (fun q => by omega) (fun _ => h h1) (fun q => by omega)]
  · rw [dr_n (by omega), aut, if_neg (by omega)]
theorem pt_c {L : List Int} {l k : Int} {c : Int → List Int} {X : List Int} (h0 : 0 ≤ k) (h1 : k < (L.length : Int)) (h : gA L k = 59) (hX : 0 < (X.length : Int)) : aut (L.drop k.toNat) 2 l (zU c l X) k = aut (L.drop (k + 1).toNat) 0 l (zU c l X) (k + 1) := by
  rw [dr_c h0 h1, aut_c h (by rw [zU_s]; exact hX)]
theorem pt_d {L : List Int} {l k : Int} {c : Int → List Int} {X : List Int} (h0 : 0 ≤ k) (h1 : k < (L.length : Int)) (h : ¬ ltr (gA L k) = -1) (hX : (X.length : Int) < 8) : aut (L.drop k.toNat) 2 l (zU c l X) k = aut (L.drop (k + 1).toNat) 2 l (zU c l (X ++ [gA L k - 97])) (k + 1) := by
  rw [dr_c h0 h1, aut_d h (by rw [zU_s]; exact hX), zU_s, zU_2, (ltr_v h).1]
theorem pt_e {L : List Int} {l k : Int} {c : Int → List Int} {X : List Int} (h0 : 0 ≤ k) (h1 : k < (L.length : Int)) (h : (X.length : Int) = 0 ∨ ¬ gA L k = 59) (h2 : 8 ≤ (X.length : Int) ∨ ltr (gA L k) = -1) : aut (L.drop k.toNat) 2 l (zU c l X) k = (k, zU c l X) := by
  rw [dr_c h0 h1, aut_e (fun q => by omega) (fun q => by omega)]
  intro _
  rw [zU_s]
  refine ⟨fun q => ?_, fun q => ?_⟩
  · rcases h with h | h
    · omega
    · exact h q.2
  · rcases h2 with h2 | h2
    · omega
    · exact q.1 h2
theorem pt_z {L : List Int} {l k : Int} {c : Int → List Int} {X : List Int} (h1 : (L.length : Int) ≤ k) : aut (L.drop k.toNat) 2 l (zU c l X) k = (if 0 < (X.length : Int) then -1 else k, zU c l X) := by
  rw [dr_n h1, aut, zU_s]
  by_cases h : 0 < (X.length : Int)
  · rw [if_pos h, if_pos ⟨rfl, h⟩]
  · rw [if_neg h, if_neg (fun q => h q.2)]
theorem cn_no {L : List Int} {k : Int} (h0 : 0 ≤ k) (h1 : k < (L.length : Int)) (h : ¬ gA L k = 59) : cn (tk L (k + 1)) 59 = cn (tk L k) 59 := by
  rw [cn_tk h0 h1, if_neg h]; omega
theorem cn_yes {L : List Int} {k : Int} (h0 : 0 ≤ k) (h1 : k < (L.length : Int)) (h : gA L k = 59) : cn (tk L (k + 1)) 59 = cn (tk L k) 59 + 1 := by
  rw [cn_tk h0 h1, if_pos h]
theorem ltr_59 {x : Int} (h : ¬ ltr x = -1) : ¬ x = 59 := fun q => by
  have := ltr_i.mpr h
  omega
