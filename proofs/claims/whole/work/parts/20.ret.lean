/-- where a piece comes -/
def occ (L K : List Int) (p : Int) : Prop := 0 ≤ p ∧ p + (K.length : Int) ≤ (L.length : Int) ∧ ∀ j : Int, 0 ≤ j → j < (K.length : Int) → gA L (p + j) = gA K j
noncomputable def ocN (L K : List Int) : Nat → List Int
  | 0 => []
  | n + 1 => @ite _ (occ L K (n : Int)) (Classical.propDecidable _) (ocN L K n ++ [(n : Int)]) (ocN L K n)
theorem ocN_t {L K : List Int} {n : Nat} (h : occ L K (n : Int)) : ocN L K (n + 1) = ocN L K n ++ [(n : Int)] := by rw [ocN, if_pos h]
theorem ocN_f {L K : List Int} {n : Nat} (h : ¬ occ L K (n : Int)) : ocN L K (n + 1) = ocN L K n := by rw [ocN, if_neg h]
theorem ocN_len (L K : List Int) (n : Nat) : (ocN L K n).length ≤ n := by
  induction n with
  | zero => exact Nat.le_refl _
  | succ n ih =>
    rcases Classical.em (occ L K (n : Int)) with h | h
    · rw [ocN_t h, List.length_append]; simp; omega
    · rw [ocN_f h]; omega
theorem ocN_mem {L K : List Int} {n : Nat} {x : Int} (hx : x ∈ ocN L K n) : 0 ≤ x ∧ x < n ∧ occ L K x := by
  induction n with
  | zero => cases hx
  | succ n ih =>
    rcases Classical.em (occ L K (n : Int)) with h | h
    · rw [ocN_t h] at hx
      rcases List.mem_append.mp hx with q | q
      · have := ih q; exact ⟨this.1, by omega, this.2.2⟩
      · rw [List.mem_singleton.mp q]; exact ⟨by omega, by omega, h⟩
    · rw [ocN_f h] at hx
      have := ih hx; exact ⟨this.1, by omega, this.2.2⟩
theorem ocN_stop {L K : List Int} {n m : Nat} (h : n ≤ m) (hs : (L.length : Int) < (n : Int) + (K.length : Int)) : ocN L K m = ocN L K n := by
  induction m with
  | zero => rw [show n = 0 by omega]
  | succ m ih =>
    by_cases e : n = m + 1
    · rw [e]
    · rw [ocN_f (fun q => by have := q.2.1; omega), ih (by omega)]
noncomputable def ocs (L K : List Int) : List Int := if K = [] then [] else ocN L K L.length
theorem ocs_mem {L K : List Int} {x : Int} (hx : x ∈ ocs L K) : 0 ≤ x ∧ x < (L.length : Int) := by
  unfold ocs at hx
  split at hx
  · cases hx
  · have h := ocN_mem hx; exact ⟨h.1, by have := h.2.1; omega⟩
theorem ocs_len (L K : List Int) : (ocs L K).length ≤ L.length := by
  unfold ocs
  split
  · exact Nat.zero_le _
  · exact ocN_len L K _
def gap (os : List Int) (k : Int) : Int := gA os (k + 1) - gA os k
def sameR (L os : List Int) (a b : Int) : Prop := gap os a = gap os b ∧ ∀ x : Int, 0 ≤ x → x < gap os a → gA L (gA os a + x) = gA L (gA os b + x)
/-- the first one of some ranks whose return is the same; their number if there is none -/
noncomputable def fidx (L os : List Int) (n : Int) : List Int → Int
  | [] => 0
  | x :: xs => @ite _ (sameR L os x n) (Classical.propDecidable _) 0 (1 + fidx L os n xs)
theorem fidx_r (L os : List Int) (n : Int) (F : List Int) : 0 ≤ fidx L os n F ∧ fidx L os n F ≤ (F.length : Int) := by
  induction F with
  | nil => exact ⟨Int.le_refl _, Int.le_refl _⟩
  | cons x F ih =>
    rw [fidx]
    rcases Classical.em (sameR L os x n) with h | h
    · rw [if_pos h, List.length_cons]; omega
    · rw [if_neg h, List.length_cons]; omega
theorem gA_cons {x : Int} {F : List Int} {j : Int} (h : 0 ≤ j) : gA (x :: F) (j + 1) = gA F j := by
  unfold gA
  rw [show (j + 1).toNat = j.toNat + 1 by omega]
  rfl
theorem gA_cons0 {x : Int} {F : List Int} : gA (x :: F) 0 = x := rfl
theorem fidx_c {L os : List Int} {n : Int} {F : List Int} : ∀ {m : Int}, 0 ≤ m → m ≤ (F.length : Int) → (∀ i : Int, 0 ≤ i → i < m → ¬ sameR L os (gA F i) n) → (m = (F.length : Int) ∨ sameR L os (gA F m) n) → fidx L os n F = m := by
  induction F with
  | nil => intro m h0 h1 _ _; rw [fidx]; simp at h1; omega
  | cons x F ih =>
    intro m h0 h1 h2 h3
    rw [fidx]
    rcases Classical.em (sameR L os x n) with h | h
    · rw [if_pos h]
      by_cases hm : m = 0
      · exact hm.symm
      · exact absurd h (h2 0 (by omega) (by omega))
    · rw [if_neg h]
      have hm : m ≠ 0 := by
        intro e
        subst e
        rcases h3 with q | q
        · rw [List.length_cons] at q; omega
        · exact h q
      rw [List.length_cons] at h1
      have := ih (m := m - 1) (by omega) (by omega) (fun i g0 g1 q => h2 (i + 1) (by omega) (by omega) (by rw [gA_cons g0]; exact q)) (by
        rcases h3 with q | q
        · left; rw [List.length_cons] at q; omega
        · right; rw [show m = m - 1 + 1 by omega, gA_cons (by omega)] at q; exact q)
      rw [this]; omega
theorem fidx_s {L os : List Int} {n : Int} {F : List Int} (h : fidx L os n F < (F.length : Int)) : sameR L os (gA F (fidx L os n F)) n := by
  induction F with
  | nil => rw [fidx] at h; simp at h
  | cons x F ih =>
    rw [fidx] at h ⊢
    rcases Classical.em (sameR L os x n) with q | q
    · rw [if_pos q] at h ⊢; exact q
    · rw [if_neg q] at h ⊢
      rw [List.length_cons] at h
      rw [show 1 + fidx L os n F = fidx L os n F + 1 by omega, gA_cons (fidx_r L os n F).1]
      exact ih (by omega)
theorem fidx_n {L os : List Int} {n : Int} {F : List Int} {i : Int} (h0 : 0 ≤ i) (h : i < fidx L os n F) : ¬ sameR L os (gA F i) n := by
  induction F generalizing i with
  | nil => rw [fidx] at h; omega
  | cons x F ih =>
    rw [fidx] at h
    rcases Classical.em (sameR L os x n) with q | q
    · rw [if_pos q] at h; omega
    · rw [if_neg q] at h
      by_cases hi : i = 0
      · subst hi; exact q
      · rw [show i = i - 1 + 1 by omega, gA_cons (by omega)]
        exact ih (by omega) (by omega)
/-- the firsts and the row of the returns of the first ranks -/
noncomputable def nst (L os : List Int) : Nat → List Int × List Int
  | 0 => ([], [])
  | n + 1 => (if fidx L os (n : Int) (nst L os n).1 < ((nst L os n).1.length : Int) then (nst L os n).1 else (nst L os n).1 ++ [(n : Int)], (nst L os n).2 ++ [fidx L os (n : Int) (nst L os n).1])
theorem nst_len (L os : List Int) (n : Nat) : (nst L os n).2.length = n := by
  induction n with
  | zero => rfl
  | succ n ih => rw [nst, List.length_append, ih]; rfl
/-- the length of the row -/
def rl (os : List Int) : Int := if (os.length : Int) - 1 < 0 then 0 else (os.length : Int) - 1
noncomputable def fir (L os : List Int) : List Int := (nst L os (rl os).toNat).1
noncomputable def roo (L os : List Int) : List Int := (nst L os (rl os).toNat).2
theorem roo_len (L os : List Int) : ((roo L os).length : Int) = rl os := by
  unfold roo
  rw [nst_len]
  unfold rl
  split <;> omega
def isRT (D : GG) (H : Heap) (o : Nat) (os N F : List Int) : Prop :=
  At D H o (oO 6 [.ref (o + 1), zV ((os.length : Int)), .ref (o + 2), .ref (o + 3), .ref (o + 4), zV ((F.length : Int))]) ∧ ∃ P S Q T : Int → Int,
    At D H (o + 1) (oI D 300 P) ∧ At D H (o + 2) (oI D 300 S) ∧ At D H (o + 3) (oI D 300 Q) ∧ At D H (o + 4) (oI D 300 T) ∧
    (∀ j : Int, 0 ≤ j → j < (os.length : Int) → P j = gA os j) ∧ (∀ j : Int, 0 ≤ j → j < (N.length : Int) → S j = gA N j) ∧ (∀ j : Int, 0 ≤ j → j < (F.length : Int) → Q j = gA F j) ∧ (∀ j : Int, 0 ≤ j → j < (F.length : Int) → T j = cn N j) ∧
    (∀ x ∈ os, 0 ≤ x ∧ x < 300) ∧ (∀ x ∈ N, 0 ≤ x ∧ x < (F.length : Int)) ∧ (∀ x ∈ F, 0 ≤ x ∧ x < (N.length : Int)) ∧ os.length ≤ 300 ∧ N.length ≤ 300 ∧ F.length ≤ N.length
theorem isRT.kept {D : GG} {H H1 : Heap} {o : Nat} {os N F : List Int} (h : isRT D H o os N F) (hq : ∀ q : Nat, o ≤ q → q < o + 5 → H1[q]? = H[q]?) : isRT D H1 o os N F := by
  obtain ⟨h1, P, S, Q, T, a, b, c, d, e⟩ := h
  exact ⟨h1.kept (hq _ (by omega) (by omega)), P, S, Q, T, a.kept (hq _ (by omega) (by omega)), b.kept (hq _ (by omega) (by omega)), c.kept (hq _ (by omega) (by omega)), d.kept (hq _ (by omega) (by omega)), e⟩
theorem isRT.lt {D : GG} {H : Heap} {o : Nat} {os N F : List Int} (h : isRT D H o os N F) : o + 4 < H.size := by
  obtain ⟨h1, P, S, Q, T, a, b, c, d, e⟩ := h
  exact d.lt
theorem gA_m {L : List Int} {P : Int → Prop} (h : ∀ x ∈ L, P x) {z : Int} (h0 : 0 ≤ z) (h1 : z < (L.length : Int)) : P (gA L z) := h _ (List.mem_of_getElem? (gA_get h0 h1))
theorem isRT.os {D : GG} {H : Heap} {o : Nat} {os N F : List Int} (h : isRT D H o os N F) : (∀ x ∈ os, 0 ≤ x ∧ x < 300) ∧ os.length ≤ 300 := by
  obtain ⟨h1, P, S, Q, T, a, b, c, d, e1, e2, e3, e4, e5, e6, e7, e8, e9⟩ := h
  exact ⟨e5, e8⟩
theorem isRT.nb {D : GG} {H : Heap} {o : Nat} {os N F : List Int} (h : isRT D H o os N F) : (∀ x ∈ F, 0 ≤ x ∧ x < (N.length : Int)) ∧ N.length ≤ 300 ∧ F.length ≤ N.length ∧ ∀ x ∈ N, 0 ≤ x ∧ x < (F.length : Int) := by
  obtain ⟨h1, P, S, Q, T, a, b, c, d, e1, e2, e3, e4, e5, e6, e7, e8, e9, e10⟩ := h
  exact ⟨e7, e9, e10, e6⟩
theorem cn_none {N : List Int} {m : Int} (h : ∀ x ∈ N, 0 ≤ x ∧ x < m) : cn N m = 0 := by
  unfold cn
  have : N.count m = 0 := List.count_eq_zero.mpr (fun q => by have := h m q; omega)
  omega
def plc (os : List Int) (z : Int) : Int := if 0 ≤ z ∧ z < (os.length : Int) then gA os z else 0
theorem sameR_lat {L os : List Int} (ho : ∀ x ∈ os, 0 ≤ x ∧ x < (L.length : Int)) {a b : Int} (ha : 0 ≤ a ∧ a + 1 < (os.length : Int)) (hb : 0 ≤ b ∧ b + 1 < (os.length : Int)) (hg : gap os a = gap os b) : (∀ j : Int, 0 ≤ j → j < gap os a → lat L (gA os a + j) = lat L (gA os b + j)) ↔ ∀ x : Int, 0 ≤ x → x < gap os a → gA L (gA os a + x) = gA L (gA os b + x) := by
  have a1 := gA_m ho (z := a) (by omega) (by omega)
  have a2 := gA_m ho (z := a + 1) (by omega) (by omega)
  have b1 := gA_m ho (z := b) (by omega) (by omega)
  have b2 := gA_m ho (z := b + 1) (by omega) (by omega)
  have ga : gap os a = gA os (a + 1) - gA os a := rfl
  have gb : gap os b = gA os (b + 1) - gA os b := rfl
  constructor
  · intro h x h0 h1
    have := h x h0 h1
    rw [lat_in (by omega) (by omega), lat_in (by omega) (by omega)] at this
    exact this
  · intro h x h0 h1
    rw [lat_in (by omega) (by omega), lat_in (by omega) (by omega)]
    exact h x h0 h1
theorem gA_snoc' {N : List Int} {x j : Int} (h0 : 0 ≤ j) (h : j < (N.length : Int) + 1) : gA (N ++ [x]) j = if j = (N.length : Int) then x else gA N j := by
  by_cases e : j = (N.length : Int)
  · rw [if_pos e, e, gA_snoc]
  · rw [if_neg e, gA_app1 h0 (by omega)]
theorem snoc_len (N : List Int) (x : Int) : ((N ++ [x]).length : Int) = (N.length : Int) + 1 := by simp
theorem snoc_all {N : List Int} {x : Int} {P : Int → Prop} (h : ∀ y ∈ N, P y) (hx : P x) : ∀ y ∈ N ++ [x], P y := mem_snoc h hx
theorem isRT_old {D : GG} {H : Heap} {o : Nat} {os N F : List Int} {P S Q T : Int → Int} {i n1 : Int} (h0 : At D H o (oO 6 [.ref (o + 1), zV ((os.length : Int)), .ref (o + 2), .ref (o + 3), .ref (o + 4), zV ((F.length : Int))])) (h1 : At D H (o + 1) (oI D 300 P)) (h2 : At D H (o + 2) (oI D 300 (zU S n1 i))) (h3 : At D H (o + 3) (oI D 300 Q)) (h4 : At D H (o + 4) (oI D 300 (zU T i (cn N i + 1))))
    (e1 : ∀ j : Int, 0 ≤ j → j < (os.length : Int) → P j = gA os j) (e2 : ∀ j : Int, 0 ≤ j → j < (N.length : Int) → S j = gA N j) (e3 : ∀ j : Int, 0 ≤ j → j < (F.length : Int) → Q j = gA F j) (e4 : ∀ j : Int, 0 ≤ j → j < (F.length : Int) → T j = cn N j) (e5 : ∀ x ∈ os, 0 ≤ x ∧ x < 300) (e6 : ∀ x ∈ N, 0 ≤ x ∧ x < (F.length : Int)) (e7 : ∀ x ∈ F, 0 ≤ x ∧ x < (N.length : Int)) (e8 : os.length ≤ 300) (e9 : (N.length : Int) < 300) (e10 : F.length ≤ N.length) (hn : n1 = (N.length : Int)) (hi : 0 ≤ i ∧ i < (F.length : Int)) : isRT D H o os (N ++ [i]) F := by
  refine ⟨h0, P, zU S n1 i, Q, zU T i (cn N i + 1), h1, h2, h3, h4, e1, fun j g0 g1 => ?_, e3, fun j g0 g1 => ?_, e5, snoc_all e6 hi, fun x hx => ?_, e8, ?_, ?_⟩
  · rw [snoc_len] at g1
    rw [gA_snoc' g0 g1]
    by_cases e : j = (N.length : Int)
    · rw [if_pos e, e, ← hn, zU_s]
    · rw [if_neg e, zU_n _ _ (by omega)]; exact e2 j g0 (by omega)
  · rw [cn_snoc]
    by_cases e : j = i
    · subst e; rw [zU_s, if_pos rfl]
    · rw [zU_n _ _ e, if_neg (fun q => e q.symm), e4 j g0 g1]; omega
  · have := e7 x hx; rw [snoc_len]; omega
  · rw [List.length_append]; simp; omega
  · rw [List.length_append]; omega
theorem isRT_new {D : GG} {H : Heap} {o : Nat} {os N F : List Int} {P S Q T : Int → Int} {i n1 : Int} (h0 : At D H o (oO 6 [.ref (o + 1), zV ((os.length : Int)), .ref (o + 2), .ref (o + 3), .ref (o + 4), zV ((F.length : Int) + 1)])) (h1 : At D H (o + 1) (oI D 300 P)) (h2 : At D H (o + 2) (oI D 300 (zU S n1 i))) (h3 : At D H (o + 3) (oI D 300 (zU Q i n1))) (h4 : At D H (o + 4) (oI D 300 (zU (zU T i 0) i (0 + 1))))
    (e1 : ∀ j : Int, 0 ≤ j → j < (os.length : Int) → P j = gA os j) (e2 : ∀ j : Int, 0 ≤ j → j < (N.length : Int) → S j = gA N j) (e3 : ∀ j : Int, 0 ≤ j → j < (F.length : Int) → Q j = gA F j) (e4 : ∀ j : Int, 0 ≤ j → j < (F.length : Int) → T j = cn N j) (e5 : ∀ x ∈ os, 0 ≤ x ∧ x < 300) (e6 : ∀ x ∈ N, 0 ≤ x ∧ x < (F.length : Int)) (e7 : ∀ x ∈ F, 0 ≤ x ∧ x < (N.length : Int)) (e8 : os.length ≤ 300) (e9 : (N.length : Int) < 300) (e10 : F.length ≤ N.length) (hn : n1 = (N.length : Int)) (hi : i = (F.length : Int)) : isRT D H o os (N ++ [i]) (F ++ [n1]) := by
  refine ⟨by rw [snoc_len]; exact h0, P, zU S n1 i, zU Q i n1, zU (zU T i 0) i (0 + 1), h1, h2, h3, h4, e1, fun j g0 g1 => ?_, fun j g0 g1 => ?_, fun j g0 g1 => ?_, e5, snoc_all (fun x hx => by have := e6 x hx; rw [snoc_len]; omega) (by rw [snoc_len]; omega), snoc_all (fun x hx => by have := e7 x hx; rw [snoc_len]; omega) (by rw [snoc_len]; omega), e8, ?_, ?_⟩
  · rw [snoc_len] at g1
    rw [gA_snoc' g0 g1]
    by_cases e : j = (N.length : Int)
    · rw [if_pos e, e, ← hn, zU_s]
    · rw [if_neg e, zU_n _ _ (by omega)]; exact e2 j g0 (by omega)
  · rw [snoc_len] at g1
    rw [gA_snoc' g0 g1]
    by_cases e : j = (F.length : Int)
    · rw [if_pos e, e, ← hi, zU_s]
    · rw [if_neg e, zU_n _ _ (by omega)]; exact e3 j g0 (by omega)
  · rw [snoc_len] at g1
    rw [cn_snoc]
    by_cases e : j = i
    · subst e; rw [zU_s, if_pos rfl]; subst hi; rw [cn_none e6]
    · rw [zU_n _ _ e, zU_n _ _ e, if_neg (fun q => e q.symm), e4 j g0 (by omega)]; omega
  · rw [List.length_append]; simp; omega
  · rw [List.length_append, List.length_append]; simp; omega
theorem occ_iff {L K : List Int} {p : Int} (h0 : 0 ≤ p) (h : p + (K.length : Int) ≤ (L.length : Int)) : (∀ j : Int, 0 ≤ j → j < (K.length : Int) → lat L (p + j) = gA K j) ↔ occ L K p := by
  constructor
  · intro q
    exact ⟨h0, h, fun j g0 g1 => by have := q j g0 g1; rw [lat_in (by omega) (by omega)] at this; exact this⟩
  · intro q j g0 g1
    rw [lat_in (by omega) (by omega)]
    exact q.2.2 j g0 g1
