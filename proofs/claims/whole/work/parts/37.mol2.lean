theorem rec_len {l : List SV} {v : SV} (h : l.length ≤ 4) : (recH l v).length ≤ 4 := by
  unfold recH
  split
  · rw [List.length_append]; simp only [List.length_cons, List.length_nil]; omega
  · rw [List.length_append, List.length_drop]; simp only [List.length_cons, List.length_nil]; omega
theorem rec_ok {l : List SV} {v : SV} (h : ∀ y ∈ l, okS y) (hv : okS v) : ∀ y ∈ recH l v, okS y := by
  intro y hy
  unfold recH at hy
  split at hy
  · rcases List.mem_append.mp hy with q | q
    · exact h y q
    · rw [List.mem_singleton.mp q]; exact hv
  · rcases List.mem_append.mp hy with q | q
    · exact h y (List.mem_of_mem_drop q)
    · rw [List.mem_singleton.mp q]; exact hv
theorem rec_a {l : List SV} {v : SV} (h : l.length < 4) : recH l v = l ++ [v] := if_pos h
theorem rec_b {l : List SV} {v : SV} (h : ¬ l.length < 4) : recH l v = l.drop 1 ++ [v] := if_neg h
theorem len1 {l : List SV} {v : SV} : ((l ++ [v]).length : Int) = (l.length : Int) + 1 := by simp
theorem lend {l : List SV} (h : 1 ≤ l.length) : ((l.drop 1).length : Int) = (l.length : Int) - 1 := by rw [List.length_drop]; omega
theorem lendl {l : List SV} (h : 1 ≤ l.length) : ((l.dropLast).length : Int) = (l.length : Int) - 1 := by rw [List.length_dropLast]; omega
theorem rp_start {f : Int → Int} {v : SV} {a : Int} (hv : rpS f v) (ok : okS v) : rpS (zU (zU f 36 1) 37 a) (v.1, [a], v.2.2) := by
  obtain ⟨h1, h2, h3⟩ := hv
  refine ⟨fun l p q => ?_, ⟨?_, fun k p q => ?_⟩, ?_, fun k p q => ?_⟩
  · have := ok.1 l p q
    refine ⟨by rw [zU_n _ _ (by omega), zU_n _ _ (by omega)]; exact (h1 l p q).1, fun k c d => ?_⟩
    have d' : k < ((v.1 l).length : Int) := d
    rw [zU_n _ _ (by omega), zU_n _ _ (by omega)]; exact (h1 l p q).2 k c d
  · rw [zU_n _ _ (by omega), zU_s]; rfl
  · have q' : k < 1 := q
    rw [show k = 0 by omega]
    exact zU_s _ _ _
  · rw [zU_n _ _ (by omega), zU_n _ _ (by omega)]; exact h3.1
  · rw [zU_n _ _ (by omega), zU_n _ _ (by omega)]; exact h3.2 k p q
theorem rp_cut {f : Int → Int} {v : SV} {t : Int} (hv : rpS f v) (ok : okS v) (ht : 1 ≤ t ∧ t ≤ (v.2.1.length : Int)) : rpS (zU f 36 t) (v.1, tk v.2.1 t, v.2.2) := by
  obtain ⟨h1, h2, h3⟩ := hv
  have hl := tk_len (L := v.2.1) (i := t) (by omega) (by omega)
  refine ⟨fun l p q => ?_, ⟨?_, fun k p q => ?_⟩, ?_, fun k p q => ?_⟩
  · have := ok.1 l p q
    refine ⟨by rw [zU_n _ _ (by omega)]; exact (h1 l p q).1, fun k c d => ?_⟩
    have d' : k < ((v.1 l).length : Int) := d
    rw [zU_n _ _ (by omega)]; exact (h1 l p q).2 k c d
  · rw [zU_s]; exact hl.symm
  · have q' : k < ((tk v.2.1 t).length : Int) := q
    rw [zU_n _ _ (by omega), gA_tk p (by omega)]; exact h2.2 k p (by omega)
  · rw [zU_n _ _ (by omega)]; exact h3.1
  · rw [zU_n _ _ (by omega)]; exact h3.2 k p q
theorem ok_start {v : SV} {a : Int} (ok : okS v) (ha : 0 ≤ a ∧ a < 4) : okS (v.1, [a], v.2.2) := ⟨ok.1, ⟨Int.le_refl 1, by show (1 : Int) ≤ 300; omega, wf_one ha.1 ha.2⟩, ok.2.2⟩
theorem ok_cut {v : SV} {t : Int} (ok : okS v) (ht : 1 ≤ t ∧ t ≤ (v.2.1.length : Int)) : okS (v.1, tk v.2.1 t, v.2.2) := by
  have hl := tk_len (L := v.2.1) (i := t) (by omega) (by omega)
  have := ok.2.1
  exact ⟨ok.1, ⟨by show 1 ≤ ((tk v.2.1 t).length : Int); omega, by show ((tk v.2.1 t).length : Int) ≤ 300; omega, wf_tk this.2.2 t⟩, ok.2.2⟩
theorem one_eq {a : Int} {w : List Int} (h1 : (w.length : Int) = 1) (h2 : gA w 0 = a) : [a] = w := li_ext (by rw [h1]; rfl) (fun j p q => by
  have q' : j < 1 := q
  rw [show j = 0 by omega, h2]; rfl)
theorem tk_ne {w : List Int} {t : Int} (ht : 0 ≤ t ∧ t < (w.length : Int)) : ¬ tk w t = w := fun q => by
  have hl := tk_len (L := w) (i := t) (by omega) (by omega)
  rw [q] at hl
  omega
-- growing
theorem gr_step {A B : List Int} {i n : Int} (h : ((tk (A ++ tk B i) 300).length : Int) = n) (hn : n < 300) (h0 : 0 ≤ i) (h1 : i < (B.length : Int)) : tk (A ++ tk B (i + 1)) 300 = tk (A ++ tk B i) 300 ++ [gA B i] ∧ ((tk (A ++ tk B (i + 1)) 300).length : Int) = n + 1 := by
  have e : tk (A ++ tk B i) 300 = A ++ tk B i := by
    apply tk_all
    rcases (show ((A ++ tk B i).length : Int) ≤ 300 ∨ 300 < ((A ++ tk B i).length : Int) by omega) with z | z
    · exact z
    · have := tk_len (L := A ++ tk B i) (i := 300) (by omega) (by omega)
      omega
  rw [e] at h
  have hl : ((A ++ (tk B i ++ [gA B i])).length : Int) = n + 1 := by
    rw [← List.append_assoc, List.length_append]
    simp only [List.length_cons, List.length_nil]
    omega
  rw [e, tk_succ h0 h1, List.append_assoc, tk_all (by omega)]
  exact ⟨rfl, hl⟩
theorem gr_full {A B : List Int} {i n : Int} (h : ((tk (A ++ tk B i) 300).length : Int) = n) (hn : 300 ≤ n) : tk (A ++ tk B i) 300 = tk (A ++ B) 300 := by
  have h9 : 300 ≤ ((A ++ tk B i).length : Int) := by
    have : (tk (A ++ tk B i) 300).length ≤ (A ++ tk B i).length := by unfold tk; rw [List.length_take]; omega
    omega
  have e : A ++ B = (A ++ tk B i) ++ B.drop i.toNat := by
    rw [List.append_assoc]
    unfold tk
    rw [List.take_append_drop]
  rw [e, tk_pre h9]
theorem gr_all {A B : List Int} {i : Int} (h : (B.length : Int) ≤ i) : tk (A ++ tk B i) 300 = tk (A ++ B) 300 := by rw [tk_all h]
theorem gw_0 {A B : List Int} : tk (A ++ tk B 0) 300 = tk A 300 := by rw [tk_0, List.append_nil]
theorem gr_x {c : Int → List Int} {w : List Int} {k : Int} (h0 : 1 ≤ k) (h1 : k ≤ (w.length : Int)) : tk (imW c (tk w (k - 1)) ++ c (gA w (k - 1))) 300 = tk (imW c (tk w (k + 1 - 1))) 300 := by
  rw [show k + 1 - 1 = (k - 1) + 1 by omega, tk_succ (by omega) (by omega), imW_snoc]
theorem gr_f {A : List Int} : ((tk A 300).length : Int) ≤ 300 := by
  unfold tk
  rw [List.length_take]
  omega
theorem rp_copy0 {t b : Int → Int} {w : List Int} {x : Int} (ht : rpW t 0 1 w) (hx : x = (w.length : Int) + 1) : rpW (zC t b 0 0 x) 0 1 w := by
  subst hx
  refine ⟨by rw [zC_i (i := 0) (by omega) (by omega)]; exact ht.1, fun k p q => ?_⟩
  rw [zC_i (i := 1 + k) (by omega) (by omega)]; exact ht.2 k p q
theorem gw_put {T : Int → Int} {X : List Int} {n a : Int} (h : ∀ j : Int, 0 ≤ j → j < n → T (1 + j) = gA X j) (hn : (X.length : Int) = n) : ∀ j : Int, 0 ≤ j → j < n + 1 → zU T (n + 1) a (1 + j) = gA (X ++ [a]) j := by
  intro j p q
  by_cases hj : j = n
  · subst hj
    rw [show 1 + j = j + 1 by omega, zU_s, ← hn, gA_snoc]
  · rw [zU_n _ _ (by omega), gA_app1 p (by omega)]
    exact h j p (by omega)
theorem gwN_ok {c : Int → List Int} {w : List Int} (hc : okR c) (hw : 1 ≤ (w.length : Int) ∧ (w.length : Int) ≤ 300 ∧ wf w) (n : Nat) : 1 ≤ ((gwN c w n).length : Int) ∧ ((gwN c w n).length : Int) ≤ 300 ∧ wf (gwN c w n) := by
  have h := gwN_1 (c := c) (w := w) (fun i a b => (hc i a b).1) (fun i a b => (hc i a b).2.2) hw.2.2 hw.1 n
  refine ⟨h.1, ?_, h.2⟩
  cases n with
  | zero => exact hw.2.1
  | succ n => rw [gwN]; exact gr_f
