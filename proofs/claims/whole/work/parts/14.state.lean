/-- what undo and the snapshot bring back: rule, word, piece -/
abbrev SV : Type := (Int → List Int) × List Int × List Int
def isS (D : GG) (H : Heap) (s : Nat) (v : SV) : Prop :=
  At D H s (oO 8 [.ref (s + 1), .ref (s + 13), .ref (s + 15)]) ∧ (∃ p : Int → Nat, isR D H (s + 1) p v.1) ∧ isL D H (s + 13) 300 v.2.1 ∧ isL D H (s + 15) 20 v.2.2
theorem isS.kept {D : GG} {H H1 : Heap} {s : Nat} {v : SV} (h : isS D H s v) (hq : ∀ q : Nat, s ≤ q → q < s + 17 → H1[q]? = H[q]?) : isS D H1 s v := by
  obtain ⟨h1, ⟨p, h2⟩, h3, h4⟩ := h
  exact ⟨h1.kept (hq _ (by omega) (by omega)), ⟨p, h2.kept (fun q a b => hq q (by omega) (by omega))⟩, h3.kept (fun q a b => hq q (by omega) (by omega)), h4.kept (fun q a b => hq q (by omega) (by omega))⟩
theorem isS.lt {D : GG} {H : Heap} {s : Nat} {v : SV} (h : isS D H s v) : s + 16 < H.size := by
  obtain ⟨h1, ⟨p, h2⟩, h3, h4⟩ := h
  exact h4.lt
/-- the history's states: slot i holds the state at q i, with the value f i -/
def isQ (D : GG) (H : Heap) (h : Nat) (q : Int → Nat) (f : Int → SV) : Prop :=
  (∀ i : Int, 0 ≤ i → i < 4 → isS D H (q i) (f i)) ∧ (∀ i : Int, 0 ≤ i → i < 4 → h + 2 ≤ q i ∧ q i + 17 ≤ h + 70) ∧ ∀ i j : Int, 0 ≤ i → i < 4 → 0 ≤ j → j < 4 → i ≠ j → q i + 17 ≤ q j ∨ q j + 17 ≤ q i
theorem isQ.kept {D : GG} {H H1 : Heap} {h : Nat} {q : Int → Nat} {f : Int → SV} (x : isQ D H h q f) (hq : ∀ a : Nat, h + 2 ≤ a → a < h + 70 → H1[a]? = H[a]?) : isQ D H1 h q f :=
  ⟨fun i a b => (x.1 i a b).kept (fun z c d => by have := x.2.1 i a b; exact hq z (by omega) (by omega)), x.2⟩
theorem isQ.lt {D : GG} {H : Heap} {h : Nat} {q : Int → Nat} {f : Int → SV} (x : isQ D H h q f) : h + 69 < H.size := by
  obtain ⟨h4, h5, h6⟩ := x
  have l0 := (h4 0 (by decide) (by decide)).lt
  have l1 := (h4 1 (by decide) (by decide)).lt
  have l2 := (h4 2 (by decide) (by decide)).lt
  have l3 := (h4 3 (by decide) (by decide)).lt
  have b0 := h5 0 (by decide) (by decide)
  have b1 := h5 1 (by decide) (by decide)
  have b2 := h5 2 (by decide) (by decide)
  have b3 := h5 3 (by decide) (by decide)
  have d01 := h6 0 1 (by decide) (by decide) (by decide) (by decide) (by decide)
  have d02 := h6 0 2 (by decide) (by decide) (by decide) (by decide) (by decide)
  have d03 := h6 0 3 (by decide) (by decide) (by decide) (by decide) (by decide)
  have d12 := h6 1 2 (by decide) (by decide) (by decide) (by decide) (by decide)
  have d13 := h6 1 3 (by decide) (by decide) (by decide) (by decide) (by decide)
  have d23 := h6 2 3 (by decide) (by decide) (by decide) (by decide) (by decide)
  omega
theorem isQ_set {D : GG} {H H1 : Heap} {h : Nat} {q : Int → Nat} {f : Int → SV} (x : isQ D H h q f) {i : Int} {v : SV} (h0 : 0 ≤ i) (h1 : i < 4) (hn : isS D H1 (q i) v) (hF : FR (rA (q i) (q i + 17)) H H1 0) : isQ D H1 h q (zU f i v) := by
  have hl := x.lt
  obtain ⟨g4, g5, g6⟩ := x
  have bx := g5 i h0 h1
  refine ⟨fun j a b => ?_, g5, g6⟩
  by_cases hj : j = i
  · subst hj
    rw [zU_s]
    exact hn
  · rw [zU_n _ _ hj]
    have bj := g5 j a b
    have dj := g6 j i a b h0 h1 hj
    exact (g4 j a b).kept (fun z c d => hF.2 z (by omega) (rA_no (by omega)))
def rotS (i : Int) : Int := if i = 3 then 0 else i + 1
theorem rotS_r {i : Int} (h0 : 0 ≤ i) (h1 : i < 4) : 0 ≤ rotS i ∧ rotS i < 4 := by
  unfold rotS; split <;> omega
theorem isQ_rot {D : GG} {H : Heap} {h : Nat} {q : Int → Nat} {f : Int → SV} (x : isQ D H h q f) : isQ D H h (fun i => q (rotS i)) (fun i => f (rotS i)) :=
  ⟨fun i a b => x.1 _ (rotS_r a b).1 (rotS_r a b).2, fun i a b => x.2.1 _ (rotS_r a b).1 (rotS_r a b).2, fun i j a b c d e => x.2.2 _ _ (rotS_r a b).1 (rotS_r a b).2 (rotS_r c d).1 (rotS_r c d).2 (by unfold rotS; split <;> split <;> omega)⟩
def isH (D : GG) (H : Heap) (h : Nat) (q : Int → Nat) (f : Int → SV) (n : Int) : Prop :=
  At D H h (oO 1 [.ref (h + 1), zV n]) ∧ At D H (h + 1) (oR D 4 4 (fun i => some (q i))) ∧ isQ D H h q f
theorem isH.kept {D : GG} {H H1 : Heap} {h : Nat} {q : Int → Nat} {f : Int → SV} {n : Int} (x : isH D H h q f n) (hq : ∀ a : Nat, h ≤ a → a < h + 70 → H1[a]? = H[a]?) : isH D H1 h q f n :=
  ⟨x.1.kept (hq _ (by omega) (by omega)), x.2.1.kept (hq _ (by omega) (by omega)), x.2.2.kept (fun a b c => hq a (by omega) (by omega))⟩
theorem isH.lt {D : GG} {H : Heap} {h : Nat} {q : Int → Nat} {f : Int → SV} {n : Int} (x : isH D H h q f n) : h + 69 < H.size := x.2.2.lt
def dSV : SV := (fun _ => [], [], [])
def gH (l : List SV) (i : Int) : SV := l.getD i.toNat dSV
/-- the history with the states of the list, the oldest one first -/
def isHL (D : GG) (H : Heap) (h : Nat) (l : List SV) : Prop := l.length ≤ 4 ∧ ∃ (q : Int → Nat) (f : Int → SV), isH D H h q f ((l.length : Int)) ∧ ∀ i : Int, 0 ≤ i → i < (l.length : Int) → f i = gH l i
theorem isHL.kept {D : GG} {H H1 : Heap} {h : Nat} {l : List SV} (x : isHL D H h l) (hq : ∀ a : Nat, h ≤ a → a < h + 70 → H1[a]? = H[a]?) : isHL D H1 h l := by
  obtain ⟨a, q, f, b, c⟩ := x
  exact ⟨a, q, f, b.kept hq, c⟩
theorem isHL.lt {D : GG} {H : Heap} {h : Nat} {l : List SV} (x : isHL D H h l) : h + 69 < H.size := by
  obtain ⟨a, q, f, b, c⟩ := x
  exact b.lt
theorem gH_app1 {l k : List SV} {i : Int} (h0 : 0 ≤ i) (h : i < (l.length : Int)) : gH (l ++ k) i = gH l i := by
  unfold gH
  rw [List.getD_eq_getElem?_getD, List.getD_eq_getElem?_getD, List.getElem?_append_left (by omega)]
theorem gH_snoc {l : List SV} {v : SV} : gH (l ++ [v]) ((l.length : Int)) = v := by
  unfold gH
  rw [List.getD_eq_getElem?_getD, List.getElem?_append_right (by omega)]
  rw [show ((l.length : Int)).toNat - l.length = 0 by omega]
  rfl
theorem gH_drop {l : List SV} {i : Int} (h0 : 0 ≤ i) : gH (l.drop 1) i = gH l (i + 1) := by
  unfold gH
  rw [List.getD_eq_getElem?_getD, List.getD_eq_getElem?_getD, List.getElem?_drop]
  congr 2
  omega
theorem gH_dropLast {l : List SV} {i : Int} (h0 : 0 ≤ i) (h : i < (l.length : Int) - 1) : gH l.dropLast i = gH l i := by
  unfold gH
  rw [List.getD_eq_getElem?_getD, List.getD_eq_getElem?_getD, List.getElem?_dropLast, if_pos (by omega)]
/-- one state more, the oldest one dropped where there are four -/
def recH (l : List SV) (v : SV) : List SV := if l.length < 4 then l ++ [v] else l.drop 1 ++ [v]
-- texts
def isT (D : GG) (H : Heap) (t : Nat) (L : List Int) : Prop :=
  At D H t (oO 9 [.ref (t + 1), zV ((L.length : Int))]) ∧ (∃ f : Int → Int, At D H (t + 1) (oC D 60 f) ∧ ∀ j : Int, 0 ≤ j → j < (L.length : Int) → f j = gA L j) ∧ L.length ≤ 60 ∧ ∀ x ∈ L, 0 ≤ x ∧ x < 65536
theorem isT.kept {D : GG} {H H1 : Heap} {t : Nat} {L : List Int} (h : isT D H t L) (hq : ∀ q : Nat, t ≤ q → q < t + 2 → H1[q]? = H[q]?) : isT D H1 t L := by
  obtain ⟨h1, ⟨f, h2, h3⟩, h4⟩ := h
  exact ⟨h1.kept (hq _ (by omega) (by omega)), ⟨f, h2.kept (hq _ (by omega) (by omega)), h3⟩, h4⟩
theorem isT.lt {D : GG} {H : Heap} {t : Nat} {L : List Int} (h : isT D H t L) : t + 1 < H.size := by
  obtain ⟨h1, ⟨f, h2, h3⟩, h4⟩ := h
  exact h2.lt
theorem isT.b {D : GG} {H : Heap} {t : Nat} {L : List Int} (h : isT D H t L) : L.length ≤ 60 := h.2.2.1
theorem gA_c {L : List Int} (h : ∀ x ∈ L, 0 ≤ x ∧ x < 65536) (z : Int) : 0 ≤ gA L z ∧ gA L z < 65536 := by
  unfold gA
  by_cases hz : z.toNat < L.length
  · rw [List.getD_eq_getElem?_getD, List.getElem?_eq_getElem hz]
    exact h _ (List.getElem_mem hz)
  · rw [List.getD_eq_getElem?_getD, List.getElem?_eq_none (by omega)]
    decide
theorem isT_mk {D : GG} {H : Heap} {t : Nat} {L : List Int} {m : Int} {f : Int → Int} (h1 : At D H t (oO 9 [.ref (t + 1), zV m])) (h2 : At D H (t + 1) (oC D 60 f)) (hm : m = (L.length : Int)) (hf : ∀ j : Int, 0 ≤ j → j < (L.length : Int) → f j = gA L j) (hn : L.length ≤ 60) (hw : ∀ x ∈ L, 0 ≤ x ∧ x < 65536) : isT D H t L := by
  subst hm
  exact ⟨h1, ⟨f, h2, hf⟩, hn, hw⟩
theorem isT_push {D : GG} {H : Heap} {t : Nat} {L : List Int} {x : Int} {f : Int → Int} (h1 : At D H t (oO 9 [.ref (t + 1), zV ((L.length : Int) + 1)])) (h2 : At D H (t + 1) (oC D 60 (zU f ((L.length : Int)) x))) (hf : ∀ j : Int, 0 ≤ j → j < (L.length : Int) → f j = gA L j) (hn : (L.length : Int) < 60) (hw : ∀ x ∈ L, 0 ≤ x ∧ x < 65536) (h0 : 0 ≤ x) (h4 : x < 65536) : isT D H t (L ++ [x]) := by
  refine isT_mk h1 h2 (by simp) (fun j g0 g1 => ?_) (by simp; omega) (fun y hy => ?_)
  · have g1' : j < (L.length : Int) + 1 := by simpa using g1
    by_cases hj : j = (L.length : Int)
    · subst hj
      rw [zU_s, gA_snoc]
    · rw [zU_n _ _ hj, gA_app1 g0 (by omega)]
      exact hf j g0 (by omega)
  · rcases List.mem_append.mp hy with h | h
    · exact hw y h
    · rw [List.mem_singleton.mp h]; exact ⟨h0, h4⟩
theorem nar_c {x : Int} (h0 : 0 ≤ x) (h1 : x < 65536) : narrow .char (zV x) = zV x := by
  have h := (pk_charN (q := x.toNat) (by omega)).1
  rw [show nI x.toNat = zI x by unfold nI; rw [zI_nat, show ((x.toNat : Nat) : Int) = x by omega]] at h
  exact h
/-- the letter of a character, -1 of another one -/
def ltr (x : Int) : Int := if 97 ≤ x ∧ x ≤ 100 then x - 97 else -1
theorem ltr_r (x : Int) : -1 ≤ ltr x ∧ ltr x < 4 := by
  unfold ltr; split <;> omega
def tlat (L : List Int) (z : Int) : Int := if 0 ≤ z ∧ z < (L.length : Int) then ltr (gA L z) else -1
theorem tlat_in {L : List Int} {z : Int} (h0 : 0 ≤ z) (h1 : z < (L.length : Int)) : tlat L z = ltr (gA L z) := if_pos ⟨h0, h1⟩
theorem drop_cons {L : List Int} {i : Int} (h0 : 0 ≤ i) (h1 : i < (L.length : Int)) : L.drop i.toNat = gA L i :: L.drop (i + 1).toNat := by
  have hl : i.toNat < L.length := by omega
  rw [List.drop_eq_getElem_cons hl, show (i + 1).toNat = i.toNat + 1 by omega]
  congr 1
  have := gA_get h0 h1
  rw [List.getElem?_eq_getElem hl] at this
  exact Option.some.inj this
/-- a text read as a rule: what is due (0 a letter, 1 '=', 2 the image), the letter, the images so far, the place; its fault (-1: none) and the images then -/
def aut : List Int → Int → Int → (Int → List Int) → Int → Int × (Int → List Int)
  | [], due, l, c, k => (if due = 2 ∧ 0 < ((c l).length : Int) then -1 else k, c)
  | x :: xs, due, l, c, k =>
    if due = 0 ∧ ltr x ≠ -1 then aut xs 1 (ltr x) (zU c (ltr x) []) (k + 1)
    else if due = 1 ∧ x = 61 then aut xs 2 l c (k + 1)
    else if due = 2 ∧ 0 < ((c l).length : Int) ∧ x = 59 then aut xs 0 l c (k + 1)
    else if due = 2 ∧ ltr x ≠ -1 ∧ ((c l).length : Int) < 8 then aut xs 2 l (zU c l (c l ++ [ltr x])) (k + 1)
    else (k, c)
theorem aut_a {x l k : Int} {xs : List Int} {c : Int → List Int} (h : ltr x ≠ -1) : aut (x :: xs) 0 l c k = aut xs 1 (ltr x) (zU c (ltr x) []) (k + 1) := by
  rw [aut, if_pos ⟨rfl, h⟩]
theorem aut_b {x l k : Int} {xs : List Int} {c : Int → List Int} (h : x = 61) : aut (x :: xs) 1 l c k = aut xs 2 l c (k + 1) := by
  rw [aut, if_neg (by omega), if_pos ⟨rfl, h⟩]
theorem aut_c {x l k : Int} {xs : List Int} {c : Int → List Int} (h : x = 59) (hl : 0 < ((c l).length : Int)) : aut (x :: xs) 2 l c k = aut xs 0 l c (k + 1) := by
  rw [aut, if_neg (by omega), if_neg (by omega), if_pos ⟨rfl, hl, h⟩]
theorem aut_d {x l k : Int} {xs : List Int} {c : Int → List Int} (h : ltr x ≠ -1) (hl : ((c l).length : Int) < 8) : aut (x :: xs) 2 l c k = aut xs 2 l (zU c l (c l ++ [ltr x])) (k + 1) := by
  rw [aut, if_neg (by omega), if_neg (by omega), if_neg, if_pos ⟨rfl, h, hl⟩]
  rintro ⟨-, -, rfl⟩
  exact h rfl
theorem aut_e {x l k due : Int} {xs : List Int} {c : Int → List Int} (h0 : due = 0 → ltr x = -1) (h1 : due = 1 → x ≠ 61) (h2 : due = 2 → ¬ (0 < ((c l).length : Int) ∧ x = 59) ∧ ¬ (ltr x ≠ -1 ∧ ((c l).length : Int) < 8)) : aut (x :: xs) due l c k = (k, c) := by
  rw [aut, if_neg (fun q => q.2 (h0 q.1)), if_neg (fun q => h1 q.1 q.2), if_neg (fun q => (h2 q.1).1 q.2), if_neg (fun q => (h2 q.1).2 q.2)]
/-- a text read as a piece -/
def pau : List Int → List Int → Int → Int × List Int
  | [], K, k => (if 0 < k then -1 else k, K)
  | x :: xs, K, k => if ltr x ≠ -1 ∧ (K.length : Int) < 20 then pau xs (K ++ [ltr x]) (k + 1) else (k, K)
theorem cn_tk {L : List Int} {i z : Int} (h0 : 0 ≤ i) (h : i < (L.length : Int)) : cn (tk L (i + 1)) z = cn (tk L i) z + if gA L i = z then 1 else 0 := by
  rw [tk_succ h0 h, cn_snoc]
theorem at_q4 {D : GG} {H : Heap} {a : Nat} {g h : Int → Option Nat} (x : At D H a (oR D 4 4 g)) (e : ∀ j : Int, 0 ≤ j → j < 4 → g j = h j) : At D H a (oR D 4 4 h) := by
  have x' : H[a]? = some (vp_cell (D.2 4) (4, .inr (.inr (.inr (.inr (fun j : Nat => g (j : Int))))))) := x
  show H[a]? = some (vp_cell (D.2 4) (4, .inr (.inr (.inr (.inr (fun j : Nat => h (j : Int)))))))
  rw [x', vp_cell_q, vp_cell_q]
  unfold arrV
  congr 2
  congr 1
  funext j
  have hj := j.isLt
  show va_rf (g ((j.val : Nat) : Int)) = va_rf (h ((j.val : Nat) : Int))
  rw [e _ (by omega) (by omega)]
