theorem nst_fl (L os : List Int) (n : Nat) : (nst L os n).1.length ≤ n := by
  induction n with
  | zero => exact Nat.le_refl _
  | succ n ih =>
    by_cases h : fidx L os (n : Int) (nst L os n).1 < ((nst L os n).1.length : Int)
    · rw [nst_h h]; exact Nat.le_succ_of_le ih
    · rw [nst_n h]
      show ((nst L os n).1 ++ [(n : Int)]).length ≤ n + 1
      rw [List.length_append]
      exact Nat.succ_le_succ ih
theorem fir_len (L os : List Int) : ((fir L os).length : Int) ≤ rl os := by
  have h := nst_fl L os (rl os).toNat
  have hr : 0 ≤ rl os := by unfold rl; split <;> omega
  unfold fir
  omega
theorem rp_row {T : Int → Int} {N : List Int} {k : Int} (h : ∀ j : Int, 0 ≤ j → j < k → T (1 + j) = gA N j) (h0 : T 0 = (N.length : Int)) (hk : (N.length : Int) ≤ k) : rpW T 0 1 N := ⟨h0, fun j a b => h j a (by omega)⟩
theorem wf_roo {L os : List Int} (h : ((fir L os).length : Int) ≤ 4) : wf (roo L os) := fun x hx => by
  have := roo_nb L os x hx
  exact ⟨this.1, by omega⟩
