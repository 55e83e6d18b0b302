noncomputable abbrev aos (L K : List Int) : List Int := ocN L K L.length
theorem aos_ocs {L K : List Int} (h : ¬ K = []) : ocs L K = aos L K := if_neg h
theorem aos_m {L K : List Int} {j : Int} (h0 : 0 ≤ j) (h1 : j < ((aos L K).length : Int)) : 0 ≤ gA (aos L K) j ∧ gA (aos L K) j < (L.length : Int) :=
  gA_m (P := fun x => 0 ≤ x ∧ x < (L.length : Int)) (fun x hx => by have := ocN_mem hx; exact ⟨this.1, this.2.1⟩) h0 h1
theorem sR_refl {L os : List Int} {a : Int} : sameR L os a a := ⟨rfl, fun _ _ _ => rfl⟩
theorem sR_sym {L os : List Int} {a b : Int} (h : sameR L os a b) : sameR L os b a := ⟨h.1.symm, fun x p q => (h.2 x p (by rw [h.1]; exact q)).symm⟩
theorem sR_tr {L os : List Int} {a b c : Int} (h : sameR L os a b) (g : sameR L os b c) : sameR L os a c := ⟨h.1.trans g.1, fun x p q => (h.2 x p q).trans (g.2 x p (by rw [← h.1]; exact q))⟩
def nB (L os : List Int) (n : Nat) : Prop := (∀ i : Int, 0 ≤ i → i < n → 0 ≤ gA (nst L os n).2 i ∧ gA (nst L os n).2 i < ((nst L os n).1.length : Int) ∧ sameR L os (gA (nst L os n).1 (gA (nst L os n).2 i)) i ∧ ∀ j : Int, 0 ≤ j → j < gA (nst L os n).2 i → ¬ sameR L os (gA (nst L os n).1 j) i) ∧ ∀ j : Int, 0 ≤ j → j < ((nst L os n).1.length : Int) → 0 ≤ gA (nst L os n).1 j ∧ gA (nst L os n).1 j < n
theorem nst_h {L os : List Int} {n : Nat} (h : fidx L os (n : Int) (nst L os n).1 < ((nst L os n).1.length : Int)) : nst L os (n + 1) = ((nst L os n).1, (nst L os n).2 ++ [fidx L os (n : Int) (nst L os n).1]) := by rw [nst, if_pos h]
theorem nst_n {L os : List Int} {n : Nat} (h : ¬ fidx L os (n : Int) (nst L os n).1 < ((nst L os n).1.length : Int)) : nst L os (n + 1) = ((nst L os n).1 ++ [(n : Int)], (nst L os n).2 ++ [fidx L os (n : Int) (nst L os n).1]) := by rw [nst, if_neg h]
theorem nB_all (L os : List Int) (n : Nat) : nB L os n := by
  induction n with
  | zero => exact ⟨fun i p q => by omega, fun j p q => by have q' : j < 0 := q; omega⟩
  | succ n ih =>
    have hl := nst_len L os n
    have hr := fidx_r L os (n : Int) (nst L os n).1
    by_cases h : fidx L os (n : Int) (nst L os n).1 < ((nst L os n).1.length : Int)
    · rw [nB, nst_h h]
      refine ⟨fun i p q => ?_, fun j p q => ?_⟩
      · show 0 ≤ gA ((nst L os n).2 ++ [_]) i ∧ gA ((nst L os n).2 ++ [_]) i < ((nst L os n).1.length : Int) ∧ sameR L os (gA (nst L os n).1 (gA ((nst L os n).2 ++ [_]) i)) i ∧ ∀ j : Int, 0 ≤ j → j < gA ((nst L os n).2 ++ [_]) i → ¬ sameR L os (gA (nst L os n).1 j) i
        by_cases hi : i = n
        · subst hi
          rw [show ((n : Nat) : Int) = ((nst L os n).2.length : Int) by omega, gA_snoc, hl]
          exact ⟨hr.1, h, fidx_s h, fun j r s => fidx_n r s⟩
        · rw [gA_app1 p (by omega)]
          exact ih.1 i p (by omega)
      · have := ih.2 j p q
        show 0 ≤ gA (nst L os n).1 j ∧ gA (nst L os n).1 j < ((n + 1 : Nat) : Int)
        omega
    · rw [nB, nst_n h]
      refine ⟨fun i p q => ?_, fun j p q => ?_⟩
      · show 0 ≤ gA ((nst L os n).2 ++ [_]) i ∧ gA ((nst L os n).2 ++ [_]) i < (((nst L os n).1 ++ [_]).length : Int) ∧ sameR L os (gA ((nst L os n).1 ++ [_]) (gA ((nst L os n).2 ++ [_]) i)) i ∧ ∀ j : Int, 0 ≤ j → j < gA ((nst L os n).2 ++ [_]) i → ¬ sameR L os (gA ((nst L os n).1 ++ [_]) j) i
        rw [snoc_len]
        by_cases hi : i = n
        · subst hi
          rw [show ((n : Nat) : Int) = ((nst L os n).2.length : Int) by omega, gA_snoc, hl, show fidx L os (n : Int) (nst L os n).1 = ((nst L os n).1.length : Int) by omega, gA_snoc]
          refine ⟨by omega, by omega, sR_refl, fun j r s => ?_⟩
          rw [gA_app1 r s]
          exact fidx_n r (by omega)
        · rw [gA_app1 p (by omega)]
          have := ih.1 i p (by omega)
          refine ⟨this.1, by omega, ?_, fun j r s => ?_⟩
          · rw [gA_app1 this.1 this.2.1]; exact this.2.2.1
          · rw [gA_app1 r (by omega)]; exact this.2.2.2 j r s
      · have q' : j < (((nst L os n).1 ++ [(n : Int)]).length : Int) := q
        rw [snoc_len] at q'
        show 0 ≤ gA ((nst L os n).1 ++ [(n : Int)]) j ∧ gA ((nst L os n).1 ++ [(n : Int)]) j < ((n + 1 : Nat) : Int)
        by_cases hj : j = ((nst L os n).1.length : Int)
        · subst hj
          rw [gA_snoc]
          omega
        · rw [gA_app1 p (by omega)]
          have := ih.2 j p (by omega)
          omega
theorem nB_hit {L os : List Int} {k i : Int} (hk : 0 ≤ k) (h0 : 0 ≤ i) (h1 : i < k) (h : sameR L os k i) : nst L os (k + 1).toNat = ((nst L os k.toNat).1, (nst L os k.toNat).2 ++ [gA (nst L os k.toNat).2 i]) := by
  have hb := nB_all L os k.toNat
  have hi := hb.1 i h0 (by omega)
  have e : fidx L os ((k.toNat : Nat) : Int) (nst L os k.toNat).1 = gA (nst L os k.toNat).2 i := by
    rw [show ((k.toNat : Nat) : Int) = k by omega]
    exact fidx_c hi.1 (by omega) (fun j p q r => hi.2.2.2 j p q (sR_tr r h)) (Or.inr (sR_tr hi.2.2.1 (sR_sym h)))
  rw [show (k + 1).toNat = k.toNat + 1 by omega, nst_h (by rw [e]; exact hi.2.1), e]
theorem nB_miss {L os : List Int} {k : Int} (hk : 0 ≤ k) (h : ∀ i : Int, 0 ≤ i → i < k → ¬ sameR L os k i) : nst L os (k + 1).toNat = ((nst L os k.toNat).1 ++ [k], (nst L os k.toNat).2 ++ [((nst L os k.toNat).1.length : Int)]) := by
  have hb := nB_all L os k.toNat
  have e : fidx L os ((k.toNat : Nat) : Int) (nst L os k.toNat).1 = ((nst L os k.toNat).1.length : Int) := by
    rw [show ((k.toNat : Nat) : Int) = k by omega]
    refine fidx_c (by omega) (Int.le_refl _) (fun j p q r => ?_) (Or.inl rfl)
    have := hb.2 j p q
    exact h _ this.1 (by omega) (sR_sym r)
  rw [show (k + 1).toNat = k.toNat + 1 by omega, nst_n (by rw [e]; omega), e, show ((k.toNat : Nat) : Int) = k by omega]
theorem nst_put {U : Int → Int} {N : List Int} {k a : Int} (h : ∀ j : Int, 0 ≤ j → j < k → U j = gA N j) (hl : (N.length : Int) = k) : ∀ j : Int, 0 ≤ j → j < k + 1 → zU U k a j = gA (N ++ [a]) j := by
  intro j p q
  by_cases hj : j = k
  · subst hj
    rw [zU_s, ← hl, gA_snoc]
  · rw [zU_n _ _ hj, gA_app1 p (by omega)]
    exact h j p (by omega)
theorem roo_nb (L os : List Int) : ∀ x ∈ roo L os, 0 ≤ x ∧ x < ((fir L os).length : Int) := by
  intro x hx
  obtain ⟨n, hn, rfl⟩ := List.mem_iff_getElem.mp hx
  have hb := nB_all L os (rl os).toNat
  have hl := nst_len L os (rl os).toNat
  have hn' : n < (rl os).toNat := by rw [← hl]; exact hn
  have := hb.1 (n : Int) (by omega) (by omega)
  have e : gA (nst L os (rl os).toNat).2 (n : Int) = (roo L os)[n] := by
    unfold gA
    rw [List.getD_eq_getElem?_getD, show ((n : Int)).toNat = n by omega, List.getElem?_eq_getElem (by omega)]
    rfl
  rw [e] at this
  exact ⟨this.1, this.2.1⟩
theorem occ_len {L K : List Int} {p : Int} (h : ¬ p + (K.length : Int) ≤ (L.length : Int)) : ¬ occ L K p := fun q => h q.2.1
