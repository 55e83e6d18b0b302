/-- a Rule at r: image i is the Letters at p i, with the word c i -/
def isR (D : GG) (H : Heap) (r : Nat) (p : Int → Nat) (c : Int → List Int) : Prop :=
  At D H r (oO 7 [.ref (r + 1), .ref (r + 2)]) ∧ At D H (r + 1) (oR D 3 4 (fun i => some (p i))) ∧ isL D H (r + 2) 0 [] ∧ (∀ i : Int, 0 ≤ i → i < 4 → isL D H (p i) 8 (c i)) ∧ (∀ i : Int, 0 ≤ i → i < 4 → r + 4 ≤ p i ∧ p i + 2 ≤ r + 12) ∧ ∀ i j : Int, 0 ≤ i → i < 4 → 0 ≤ j → j < 4 → i ≠ j → p i + 2 ≤ p j ∨ p j + 2 ≤ p i
theorem isR.im {D : GG} {H : Heap} {r : Nat} {p : Int → Nat} {c : Int → List Int} (h : isR D H r p c) {i : Int} (h0 : 0 ≤ i) (h1 : i < 4) : isL D H (p i) 8 (c i) := h.2.2.2.1 i h0 h1
theorem isR.bd {D : GG} {H : Heap} {r : Nat} {p : Int → Nat} {c : Int → List Int} (h : isR D H r p c) {i : Int} (h0 : 0 ≤ i) (h1 : i < 4) : r + 4 ≤ p i ∧ p i + 2 ≤ r + 12 := h.2.2.2.2.1 i h0 h1
theorem isR.lt {D : GG} {H : Heap} {r : Nat} {p : Int → Nat} {c : Int → List Int} (h : isR D H r p c) : r + 11 < H.size := by
  have h0 := (h.im (i := 0) (by decide) (by decide)).lt
  have h1 := (h.im (i := 1) (by decide) (by decide)).lt
  have h2 := (h.im (i := 2) (by decide) (by decide)).lt
  have h3 := (h.im (i := 3) (by decide) (by decide)).lt
  have b0 := h.bd (i := 0) (by decide) (by decide)
  have b1 := h.bd (i := 1) (by decide) (by decide)
  have b2 := h.bd (i := 2) (by decide) (by decide)
  have b3 := h.bd (i := 3) (by decide) (by decide)
  have d01 := h.2.2.2.2.2 0 1 (by decide) (by decide) (by decide) (by decide) (by decide)
  have d02 := h.2.2.2.2.2 0 2 (by decide) (by decide) (by decide) (by decide) (by decide)
  have d03 := h.2.2.2.2.2 0 3 (by decide) (by decide) (by decide) (by decide) (by decide)
  have d12 := h.2.2.2.2.2 1 2 (by decide) (by decide) (by decide) (by decide) (by decide)
  have d13 := h.2.2.2.2.2 1 3 (by decide) (by decide) (by decide) (by decide) (by decide)
  have d23 := h.2.2.2.2.2 2 3 (by decide) (by decide) (by decide) (by decide) (by decide)
  omega
theorem isR.kept {D : GG} {H H1 : Heap} {r : Nat} {p : Int → Nat} {c : Int → List Int} (h : isR D H r p c) (hq : ∀ q : Nat, r ≤ q → q < r + 12 → H1[q]? = H[q]?) : isR D H1 r p c := by
  obtain ⟨h1, h2, h3, h4, h5, h6⟩ := h
  exact ⟨h1.kept (hq _ (by omega) (by omega)), h2.kept (hq _ (by omega) (by omega)), h3.kept (fun q a b => hq q (by omega) (by omega)), fun i a b => (h4 i a b).kept (fun q c d => by have := h5 i a b; exact hq q (by omega) (by omega)), h5, h6⟩
theorem isR_set {D : GG} {H H1 : Heap} {r : Nat} {p : Int → Nat} {c : Int → List Int} (h : isR D H r p c) {x : Int} {K : List Int} (h0 : 0 ≤ x) (h1 : x < 4) (hn : isL D H1 (p x) 8 K) (hF : FR (rA (p x) (p x + 2)) H H1 0) : isR D H1 r p (zU c x K) := by
  have hl := h.lt
  obtain ⟨g1, g2, g3, g4, g5, g6⟩ := h
  have bx := g5 x h0 h1
  refine ⟨g1.kept (hF.2 _ (by omega) (rA_no (by omega))), g2.kept (hF.2 _ (by omega) (rA_no (by omega))), g3.kept (fun q a b => hF.2 q (by omega) (rA_no (by omega))), fun i a b => ?_, g5, g6⟩
  by_cases hi : i = x
  · subst hi
    rw [zU_s]
    exact hn
  · rw [zU_n _ _ hi]
    have bi := g5 i a b
    have dj := g6 i x a b h0 h1 hi
    exact (g4 i a b).kept (fun q c d => hF.2 q (by omega) (rA_no (by omega)))
theorem isR.c {D : GG} {H : Heap} {r : Nat} {p : Int → Nat} {c c' : Int → List Int} (h : isR D H r p c) (hc : ∀ i : Int, 0 ≤ i → i < 4 → c i = c' i) : isR D H r p c' := by
  obtain ⟨h1, h2, h3, h4, h5, h6⟩ := h
  exact ⟨h1, h2, h3, fun i a b => by rw [← hc i a b]; exact h4 i a b, h5, h6⟩
theorem isR.w {D : GG} {H : Heap} {r : Nat} {p : Int → Nat} {c : Int → List Int} (h : isR D H r p c) {i : Int} (h0 : 0 ≤ i) (h1 : i < 4) : wf (c i) ∧ (c i).length ≤ 8 := ⟨(h.im h0 h1).w, (h.im h0 h1).b.1⟩
def totN (c : Int → List Int) : Nat → Int
  | 0 => 0
  | n + 1 => totN c n + ((c (n : Int)).length : Int)
/-- the letters of all images together -/
def tot (c : Int → List Int) : Int := totN c 4
theorem tot_r {c : Int → List Int} (h : ∀ i : Int, 0 ≤ i → i < 4 → (c i).length ≤ 8) : 0 ≤ tot c ∧ tot c ≤ 32 := by
  have h0 := h 0 (by decide) (by decide)
  have h1 := h 1 (by decide) (by decide)
  have h2 := h 2 (by decide) (by decide)
  have h3 := h 3 (by decide) (by decide)
  have e : tot c = 0 + ((c 0).length : Int) + ((c 1).length : Int) + ((c 2).length : Int) + ((c 3).length : Int) := rfl
  omega
/-- the letter that a word begins or ends with -/
noncomputable def ende (P : Prop) (L : List Int) : Int := lat L (@ite _ P (Classical.propDecidable P) ((L.length : Int) - 1) 0)
theorem ende_t {P : Prop} (h : P) {L : List Int} : ende P L = lat L ((L.length : Int) - 1) := by unfold ende; rw [if_pos h]
theorem ende_f {P : Prop} (h : ¬ P) {L : List Int} : ende P L = lat L 0 := by unfold ende; rw [if_neg h]
noncomputable def comE (P : Prop) (c : Int → List Int) : Int := @ite _ (∀ i : Int, 1 ≤ i → i < 4 → ende P (c i) = ende P (c 0)) (Classical.propDecidable _) (ende P (c 0)) (-1)
theorem comE_t {P : Prop} {c : Int → List Int} (h : ∀ i : Int, 1 ≤ i → i < 4 → ende P (c i) = ende P (c 0)) : comE P c = ende P (c 0) := by unfold comE; rw [if_pos h]
theorem comE_f {P : Prop} {c : Int → List Int} {i : Int} (h0 : 1 ≤ i) (h1 : i < 4) (h : ¬ ende P (c i) = ende P (c 0)) : comE P c = -1 := by unfold comE; rw [if_neg (fun q => h (q i h0 h1))]
