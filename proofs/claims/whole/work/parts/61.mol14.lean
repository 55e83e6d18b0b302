theorem rp_look {G f : Int → Int} {v : SV} {K : List Int} (hv : rpS f v) (ok : okS v) (h1 : G 337 = (K.length : Int)) (h2 : ∀ j : Int, 0 ≤ j → j < (K.length : Int) → G (338 + j) = gA K j) (h3 : ∀ j : Int, j < 337 → G j = f j) : rpS G (v.1, v.2.1, K) := by
  obtain ⟨r1, r2, r3⟩ := hv
  refine ⟨fun l p q => ?_, ⟨?_, fun k p q => ?_⟩, h1, h2⟩
  · have := ok.1 l p q
    refine ⟨by rw [h3 _ (by omega)]; exact (r1 l p q).1, fun k c d => ?_⟩
    have d' : k < ((v.1 l).length : Int) := d
    have t' : ((v.1 l).length : Int) ≤ 8 := this.2.1
    rw [h3 _ (by omega)]; exact (r1 l p q).2 k c d
  · rw [h3 _ (by omega)]; exact r2.1
  · have q' : k < (v.2.1.length : Int) := q
    have t' : (v.2.1.length : Int) ≤ 300 := ok.2.1.2.1
    rw [h3 _ (by omega)]; exact r2.2 k p q
theorem pm_w {L : List Int} (h : ∀ j : Int, 0 ≤ j → j < (L.length : Int) → ¬ ltr (gA L j) = -1) : wf (pm L ((L.length : Int))) := by
  intro x hx
  obtain ⟨n, hn, rfl⟩ := List.mem_iff_getElem.mp hx
  have hl := pm_len (L := L) (k := (L.length : Int)) (by omega) (Int.le_refl _)
  have e := pm_g (L := L) (k := (L.length : Int)) (j := (n : Int)) (by omega) (by omega) (Int.le_refl _)
  have e2 : gA (pm L ((L.length : Int))) (n : Int) = (pm L ((L.length : Int)))[n] := by
    unfold gA
    rw [List.getD_eq_getElem?_getD, show ((n : Int)).toNat = n by omega, List.getElem?_eq_getElem hn]
    rfl
  have hv := ltr_v (h (n : Int) (by omega) (by omega))
  rw [← e2, e]
  exact hv.2
