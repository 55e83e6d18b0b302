theorem imW_nx {c : Int → List Int} {L : List Int} {k : Int} (h0 : 0 ≤ k) (h1 : k < (L.length : Int)) : ((imW c (tk L (k + 1))).length : Int) = ((imW c (tk L k)).length : Int) + ((c (gA L k)).length : Int) := by
  rw [tk_succ h0 h1, imW_snoc, List.length_append]
  omega
theorem imW_at {c : Int → List Int} {L : List Int} {k i : Int} (h0 : 0 ≤ k) (h1 : k < (L.length : Int)) (h2 : 0 ≤ i) (h3 : i < ((c (gA L k)).length : Int)) : gA (imW c L) (((imW c (tk L k)).length : Int) + i) = gA (c (gA L k)) i := by
  obtain ⟨B, hB⟩ := imW_split c L (k + 1)
  rw [hB, tk_succ h0 h1, imW_snoc, List.append_assoc, gA_app2 (by omega), show ((imW c (tk L k)).length : Int) + i - ((imW c (tk L k)).length : Int) = i by omega, gA_app1 h2 h3]
theorem imW_le {c : Int → List Int} {L : List Int} {k : Int} (h0 : 0 ≤ k) (h1 : k < (L.length : Int)) : ((imW c (tk L k)).length : Int) + ((c (gA L k)).length : Int) ≤ ((imW c L).length : Int) := by
  obtain ⟨B, hB⟩ := imW_split c L (k + 1)
  rw [hB, ← imW_nx h0 h1, List.length_append]
  omega
theorem okR_sq {c : Int → List Int} (h : okR c) (h8 : ∀ i : Int, 0 ≤ i → i < 4 → ((imW c (c i)).length : Int) ≤ 8) : okR (fun i => imW c (c i)) := fun l a b =>
  ⟨imW_1 (fun i p q => (h i p q).1) (h l a b).2.2 (h l a b).1, h8 l a b, wf_imW (fun i p q => (h i p q).2.2) (h l a b).2.2⟩
theorem md1 {k n : Int} (h0 : 0 ≤ k) (h1 : k < n) : (k + 1) % n = if k = n - 1 then 0 else k + 1 := by
  split
  · rename_i h
    rw [h, show n - 1 + 1 = n by omega, Int.emod_self]
  · exact Int.emod_eq_of_lt (by omega) (by omega)
theorem md2 {k n : Int} (h0 : 0 ≤ k) (h1 : k < n) : (k + n - 1) % n = if k = 0 then n - 1 else k - 1 := by
  split
  · rename_i h
    rw [h, show 0 + n - 1 = n - 1 by omega]
    exact Int.emod_eq_of_lt (by omega) (by omega)
  · rw [show k + n - 1 = k - 1 + n by omega, Int.add_emod_right]
    exact Int.emod_eq_of_lt (by omega) (by omega)
theorem rot_w {P : Prop} {L : List Int} (h : wf L) : wf (rot P L) := by
  rcases Classical.em P with p | p
  · rw [rot_t p]; exact rot2_wf h
  · rw [rot_f p]; exact rot1_wf h
theorem okR_rot {P : Prop} {c : Int → List Int} (h : okR c) : okR (fun i => rot P (c i)) := fun l a b => by
  have := h l a b
  exact ⟨by show 1 ≤ ((rot P (c l)).length : Int); rw [rot_len]; exact this.1, by show ((rot P (c l)).length : Int) ≤ 8; rw [rot_len]; exact this.2.1, rot_w this.2.2⟩
