-- a rule laid row by row
def rpP (T : Int → Int) (c : Int → List Int) (l : Int) : Prop := ∀ i : Int, 0 ≤ i → i < l → T (9 * i) = ((c i).length : Int) ∧ ∀ k : Int, 0 ≤ k → k < ((c i).length : Int) → T (9 * i + 1 + k) = gA (c i) k
def rpK (T : Int → Int) (L : List Int) (l n : Int) : Prop := ∀ k : Int, 0 ≤ k → k < n → T (9 * l + 1 + k) = gA L k
theorem rpP_0 {T : Int → Int} {c : Int → List Int} : rpP T c 0 := fun i a b => by omega
theorem rpP_z {T : Int → Int} {c : Int → List Int} {l j a : Int} (h : rpP T c l) (hc : ∀ i : Int, 0 ≤ i → i < l → ((c i).length : Int) ≤ 8) (hj : 9 * l ≤ j) : rpP (zU T j a) c l := by
  intro i p q
  have := hc i p q
  exact ⟨by rw [zU_n _ _ (by omega)]; exact (h i p q).1, fun k r s => by rw [zU_n _ _ (by omega)]; exact (h i p q).2 k r s⟩
theorem rpK_0 {T : Int → Int} {L : List Int} {l : Int} : rpK T L l 0 := fun k a b => by omega
theorem rpK_put {T : Int → Int} {L : List Int} {l n j a : Int} (h : rpK T L l n) (hj : j = 9 * l + 1 + n) (ha : a = gA L n) : rpK (zU T j a) L l (n + 1) := by
  intro k p q
  by_cases hk : k = n
  · subst hk
    rw [hj, zU_s, ha]
  · rw [zU_n _ _ (by omega)]
    exact h k p (by omega)
theorem rpK_z {T : Int → Int} {L : List Int} {l n a : Int} (h : rpK T L l n) : rpK (zU T (9 * l) a) L l n := fun k p q => by
  rw [zU_n _ _ (by omega)]; exact h k p q
theorem rpP_end {T : Int → Int} {c : Int → List Int} {l n : Int} (h : rpP T c l) (hs : T (9 * l) = ((c l).length : Int)) (hk : rpK T (c l) l n) (hn : ((c l).length : Int) ≤ n) : rpP T c (l + 1) := by
  intro i p q
  by_cases hi : i = l
  · subst hi
    exact ⟨hs, fun k r s => hk k r (by omega)⟩
  · exact h i p (by omega)
-- a word whose first letters are exchanged
def swp (f : Int → Int) (w : List Int) (k : Int) : List Int := (tk w k).map f ++ w.drop k.toNat
theorem swp_0 {f : Int → Int} {w : List Int} : swp f w 0 = w := by unfold swp; rw [tk_0]; rfl
theorem swp_all {f : Int → Int} {w : List Int} {k : Int} (h : (w.length : Int) ≤ k) : swp f w k = w.map f := by
  unfold swp
  rw [tk_all h, List.drop_eq_nil_of_le (by omega), List.append_nil]
theorem swp_len {f : Int → Int} {w : List Int} {k : Int} : ((swp f w k).length : Int) = (w.length : Int) := by
  unfold swp tk
  rw [List.length_append, List.length_map, List.length_take, List.length_drop]
  omega
theorem swp_lt {f : Int → Int} {w : List Int} {k j : Int} (h0 : 0 ≤ j) (h : j < k) (h1 : k ≤ (w.length : Int)) : gA (swp f w k) j = f (gA w j) := by
  have hl := tk_len (L := w) (i := k) (by omega) h1
  unfold swp
  rw [gA_app1 h0 (by rw [List.length_map]; omega), gA_map h0 (by omega), gA_tk h0 h]
theorem swp_ge {f : Int → Int} {w : List Int} {k j : Int} (hk : 0 ≤ k) (h : k ≤ j) (h1 : k ≤ (w.length : Int)) : gA (swp f w k) j = gA w j := by
  have hl := tk_len (L := w) (i := k) hk h1
  unfold swp
  rw [gA_app2 (by rw [List.length_map]; omega), gA_drop (by rw [List.length_map]; omega), List.length_map, hl]
  congr 1
  omega
theorem swp_w {f : Int → Int} {w : List Int} {k : Int} (h : wf w) (hf : ∀ x : Int, 0 ≤ x ∧ x < 4 → 0 ≤ f x ∧ f x < 4) : wf (swp f w k) := by
  refine wf_app (fun y hy => ?_) (fun y hy => h y (List.mem_of_mem_drop hy))
  obtain ⟨x, hx, rfl⟩ := List.mem_map.mp hy
  exact hf x (wf_tk h k x hx)
theorem rp_swp {F f : Int → Int} {c : Int → List Int} {w p : List Int} {k i a : Int} (h : rpS F (c, swp f w k, p)) (ok : okS (c, swp f w k, p)) (hk : 0 ≤ k ∧ k < (w.length : Int)) (hi : i = 37 + k) (ha : a = f (gA w k)) : rpS (zU F i a) (c, swp f w (k + 1), p) := by
  obtain ⟨h1, h2, h3⟩ := h
  subst hi
  have hl := swp_len (f := f) (w := w) (k := k)
  have hl2 := swp_len (f := f) (w := w) (k := k + 1)
  have o2 : ((swp f w k).length : Int) ≤ 300 := ok.2.1.2.1
  refine ⟨fun l p q => ?_, ⟨?_, fun j p q => ?_⟩, ?_, fun j p q => ?_⟩
  · have := ok.1 l p q
    refine ⟨by rw [zU_n _ _ (by omega)]; exact (h1 l p q).1, fun j r s => ?_⟩
    have s' : j < ((c l).length : Int) := s
    have t' : ((c l).length : Int) ≤ 8 := this.2.1
    rw [zU_n _ _ (by omega)]; exact (h1 l p q).2 j r s
  · rw [zU_n _ _ (by omega)]; exact h2.1.trans (hl.trans hl2.symm)
  · have q' : j < ((swp f w (k + 1)).length : Int) := q
    by_cases hj : j = k
    · subst hj
      rw [zU_s, ha]
      exact (swp_lt p (by omega) (by omega)).symm
    · rw [zU_n _ _ (by omega)]
      refine (h2.2 j p (by show j < ((swp f w k).length : Int); omega)).trans ?_
      show gA (swp f w k) j = gA (swp f w (k + 1)) j
      rcases (show j < k ∨ k < j by omega) with z | z
      · rw [swp_lt p z (by omega), swp_lt p (by omega) (by omega)]
      · rw [swp_ge (by omega) (by omega) (by omega), swp_ge (by omega) (by omega) (by omega)]
  · rw [zU_n _ _ (by omega)]; exact h3.1
  · rw [zU_n _ _ (by omega)]; exact h3.2 j p q
theorem ok_swp {f : Int → Int} {c : Int → List Int} {w p : List Int} {k : Int} (ok : okS (c, w, p)) (hf : ∀ x : Int, 0 ≤ x ∧ x < 4 → 0 ≤ f x ∧ f x < 4) : okS (c, swp f w k, p) :=
  ⟨ok.1, ⟨by show 1 ≤ ((swp f w k).length : Int); rw [swp_len]; exact ok.2.1.1, by show ((swp f w k).length : Int) ≤ 300; rw [swp_len]; exact ok.2.1.2.1, swp_w ok.2.1.2.2 hf⟩, ok.2.2⟩
theorem okR_sw {c : Int → List Int} {a b : Int} (ha : 0 ≤ a ∧ a < 4) (hb : 0 ≤ b ∧ b < 4) (h : okR c) : okR (fun i => (c (sw a b i)).map (sw a b)) := by
  intro l p q
  have hr := sw_r ha hb ⟨p, q⟩
  have := h _ hr.1 hr.2
  refine ⟨?_, ?_, wf_map (fun x hx => sw_r ha hb (this.2.2 x hx))⟩
  · show 1 ≤ (((c (sw a b l)).map (sw a b)).length : Int)
    rw [List.length_map]; exact this.1
  · show (((c (sw a b l)).map (sw a b)).length : Int) ≤ 8
    rw [List.length_map]; exact this.2.1
theorem okR_w {c : Int → List Int} (h : okR c) : ∀ l : Int, 0 ≤ l → l < 4 → ((c l).length : Int) ≤ 300 ∧ wf (c l) := fun l a b => ⟨by have := (h l a b).2.1; omega, (h l a b).2.2⟩
theorem sw_ch {a b x : Int} (hab : ¬ a = b) : (x = sw a b x ↔ ¬ (x = a ∨ x = b)) := by unfold sw; split <;> (try split) <;> omega
