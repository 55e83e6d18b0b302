theorem orI_0 {s : Int} (h : 0 ≤ s) : orI s 0 = s := by
  unfold orI
  rw [show (0 : Int).toNat = 0 from rfl, Nat.or_zero]
  omega
theorem led_t {c : Int → List Int} {s l : Int} (hl : 0 ≤ l) (h : bI (hasB s l) = 1) : ledN c s (l + 1).toNat = orI (ledN c s l.toNat) (bitL (c l)) := by
  rw [show (l + 1).toNat = l.toNat + 1 by omega, ledN, show ((l.toNat : Nat) : Int) = l by omega, if_neg (bI_1 h)]
theorem led_f {c : Int → List Int} {s l : Int} (hl : 0 ≤ l) (h : ¬ bI (hasB s l) = 1) : ledN c s (l + 1).toNat = ledN c s l.toNat := by
  rw [show (l + 1).toNat = l.toNat + 1 by omega, ledN, show ((l.toNat : Nat) : Int) = l by omega, if_pos (Classical.not_not.mp fun q => h (bI_t (P := hasB s l) q))]
theorem reN_s {c : Int → List Int} {s k : Int} (hk : 0 ≤ k) : reN c s (k + 1).toNat = orI (reN c s k.toNat) (led c (reN c s k.toNat)) := by
  rw [show (k + 1).toNat = k.toNat + 1 by omega, reN]
def nC (L os : List Int) (n : Nat) : Prop := ∀ j : Int, 0 ≤ j → j < ((nst L os n).1.length : Int) → gA (nst L os n).2 (gA (nst L os n).1 j) = j ∧ ∀ i : Int, 0 ≤ i → i < gA (nst L os n).1 j → ¬ gA (nst L os n).2 i = j
theorem nC_all (L os : List Int) (n : Nat) : nC L os n := by
  induction n with
  | zero => exact fun j p q => by have q' : j < 0 := q; omega
  | succ n ih =>
    have hl := nst_len L os n
    have hb := nB_all L os n
    have hr := fidx_r L os (n : Int) (nst L os n).1
    by_cases h : fidx L os (n : Int) (nst L os n).1 < ((nst L os n).1.length : Int)
    · rw [nC, nst_h h]
      intro j p q
      have q' : j < ((nst L os n).1.length : Int) := q
      have hj := hb.2 j p q'
      have hi := ih j p q'
      show gA ((nst L os n).2 ++ [_]) (gA (nst L os n).1 j) = j ∧ ∀ i : Int, 0 ≤ i → i < gA (nst L os n).1 j → ¬ gA ((nst L os n).2 ++ [_]) i = j
      rw [gA_app1 hj.1 (by omega)]
      exact ⟨hi.1, fun i r s => by rw [gA_app1 r (by omega)]; exact hi.2 i r s⟩
    · rw [nC, nst_n h]
      intro j p q
      have q' : j < (((nst L os n).1 ++ [(n : Int)]).length : Int) := q
      rw [snoc_len] at q'
      show gA ((nst L os n).2 ++ [fidx L os (n : Int) (nst L os n).1]) (gA ((nst L os n).1 ++ [(n : Int)]) j) = j ∧ ∀ i : Int, 0 ≤ i → i < gA ((nst L os n).1 ++ [(n : Int)]) j → ¬ gA ((nst L os n).2 ++ [fidx L os (n : Int) (nst L os n).1]) i = j
      by_cases hj : j = ((nst L os n).1.length : Int)
      · have e1 : gA ((nst L os n).1 ++ [(n : Int)]) j = n := by rw [hj, gA_snoc]
        have e2 : gA ((nst L os n).2 ++ [fidx L os (n : Int) (nst L os n).1]) (n : Int) = fidx L os (n : Int) (nst L os n).1 := by
          rw [show ((n : Nat) : Int) = ((nst L os n).2.length : Int) by omega, gA_snoc]
        rw [e1, e2]
        refine ⟨by omega, fun i r s => ?_⟩
        rw [gA_app1 r (by omega)]
        have := hb.1 i r s
        omega
      · have hj2 := hb.2 j p (by omega)
        have hi := ih j p (by omega)
        rw [gA_app1 p (by omega), gA_app1 hj2.1 (by omega)]
        exact ⟨hi.1, fun i r s => by rw [gA_app1 r (by omega)]; exact hi.2 i r s⟩
theorem fir_e {L os : List Int} {n f : Int} (h0 : 0 ≤ f) (h1 : f < rl os) (h2 : gA (roo L os) f = n) (h3 : ∀ i : Int, 0 ≤ i → i < f → ¬ gA (roo L os) i = n) : (0 ≤ n ∧ n < ((fir L os).length : Int)) ∧ gA (fir L os) n = f := by
  have hb := nB_all L os (rl os).toNat
  have hc := nC_all L os (rl os).toNat
  have hn := hb.1 f h0 (by omega)
  have e : gA (nst L os (rl os).toNat).2 f = n := h2
  rw [e] at hn
  have hd := hc n hn.1 hn.2.1
  have he := hb.2 n hn.1 hn.2.1
  refine ⟨⟨hn.1, hn.2.1⟩, ?_⟩
  show gA (nst L os (rl os).toNat).1 n = f
  rcases (show gA (nst L os (rl os).toNat).1 n < f ∨ f < gA (nst L os (rl os).toNat).1 n ∨ gA (nst L os (rl os).toNat).1 n = f by omega) with z | z | z
  · exact absurd hd.1 (h3 _ he.1 z)
  · exact absurd e (hd.2 f h0 z)
  · exact z
theorem fir_no {L os : List Int} {n : Int} (h0 : 0 ≤ n) (h : ∀ i : Int, 0 ≤ i → i < rl os → ¬ gA (roo L os) i = n) : ¬ n < ((fir L os).length : Int) := fun q => by
  have hb := nB_all L os (rl os).toNat
  have hc := nC_all L os (rl os).toNat
  have he := hb.2 n h0 q
  exact h _ he.1 (by omega) (hc n h0 q).1
theorem cn_drop {N : List Int} {k z : Int} (h0 : 0 ≤ k) (h1 : k < (N.length : Int)) : cn (N.drop k.toNat) z = cn (N.drop (k + 1).toNat) z + if gA N k = z then 1 else 0 := by
  have hg := gA_get (L := N) h0 h1
  have e : N.drop k.toNat = gA N k :: N.drop (k + 1).toNat := by
    rw [show (k + 1).toNat = k.toNat + 1 by omega]
    rw [List.getElem?_eq_getElem (by omega)] at hg
    rw [← Option.some.inj hg]
    exact List.drop_eq_getElem_cons (by omega)
  rw [e]
  unfold cn
  rw [List.count_cons]
  by_cases h : gA N k = z
  · rw [if_pos h, if_pos (by simpa using h)]; omega
  · rw [if_neg h, if_neg (by simpa using h)]; omega
theorem rl_0 : rl [] = 0 := rfl
theorem rl_e {os : List Int} : (2 ≤ (os.length : Int) → rl os = (os.length : Int) - 1) ∧ ((os.length : Int) < 2 → rl os = 0) := by unfold rl; split <;> omega
theorem ne_nil {K : List Int} (h : ¬ (K.length : Int) = 0) : ¬ K = [] := fun q => h (by rw [q]; rfl)
theorem nil_of {K : List Int} (h : (K.length : Int) = 0) : K = [] := List.eq_nil_of_length_eq_zero (by omega)
