-- a truth as an int
noncomputable def bI (P : Prop) : Int := @ite Int P (Classical.propDecidable P) 1 0
theorem bI_t {P : Prop} (h : P) : bI P = 1 := by unfold bI; exact if_pos h
theorem bI_f {P : Prop} (h : ¬ P) : bI P = 0 := by unfold bI; exact if_neg h
theorem bI_01 (P : Prop) : bI P = 0 ∨ bI P = 1 := by
  rcases Classical.em P with h | h
  · exact Or.inr (bI_t h)
  · exact Or.inl (bI_f h)
theorem bI_r (P : Prop) : 0 ≤ bI P ∧ bI P ≤ 1 := by
  rcases bI_01 P with h | h <;> omega
theorem bI_iff {P Q : Prop} (h : P ↔ Q) : bI P = bI Q := by
  rcases Classical.em P with hp | hp
  · rw [bI_t hp, bI_t (h.mp hp)]
  · rw [bI_f hp, bI_f (fun q => hp (h.mpr q))]
theorem bI_1 {P : Prop} (h : bI P = 1) : P := Classical.not_not.mp fun p => by rw [bI_f p] at h; omega
theorem bI_0 {P : Prop} (h : bI P = 0) : ¬ P := fun p => by rw [bI_t p] at h; omega
theorem rI {a b : Int} (h : a = b) : (some (zV a) : Option Value) = some (zV b) := by rw [h]
theorem rT {P : Prop} (h : P) : (some (zV 1) : Option Value) = some (zV (bI P)) := by rw [bI_t h]
theorem rF {P : Prop} (h : ¬ P) : (some (zV 0) : Option Value) = some (zV (bI P)) := by rw [bI_f h]
def rA (lo hi : Nat) : Nat → Prop := fun q => lo ≤ q ∧ q < hi
theorem rA_in {lo hi q : Nat} (h : lo ≤ q) (h2 : q < hi) : rA lo hi q := ⟨h, h2⟩
theorem rA_no {lo hi q : Nat} (h : q < lo ∨ hi ≤ q) : ¬ rA lo hi q := fun z => by have := z.1; have := z.2; omega
theorem rA_sub {lo hi lo' hi' : Nat} (h : lo ≤ lo') (h2 : hi' ≤ hi) : ∀ q, rA lo' hi' q → rA lo hi q := fun q z => ⟨Nat.le_trans h z.1, Nat.lt_of_lt_of_le z.2 h2⟩
section BROWS
variable {D : GG} {M : MX} {R : Room} {cc : ByteArray} {nL : Nat} {own : String} {A : Nat → Prop} {cs sl : Nat} {Q : State → Prop} {pc : Nat} {L : List (Nat × Value)} {st : List Value} {H : Heap}
theorem x_if_eqB (ho : Ok D M cc nL own) {P : Prop} {off : Int} {tgt : Nat} (hd : decode cc pc = .ok (.ifCond .eq off, 3)) (ht : (pc : Int) + off = (tgt : Int)) (kt : ¬ P → X M R nL A cs sl Q tgt L st H) (kf : P → X M R nL A cs sl Q (pc + 3) L st H) : X M R nL A cs sl Q pc L (zV (bI P) :: st) H :=
  x_if_eq ho hd ht (by have := bI_r P; omega) (fun h => kt (bI_0 h)) (fun h => kf (Classical.not_not.mp fun p => h (bI_f p)))
theorem x_if_neB (ho : Ok D M cc nL own) {P : Prop} {off : Int} {tgt : Nat} (hd : decode cc pc = .ok (.ifCond .ne off, 3)) (ht : (pc : Int) + off = (tgt : Int)) (kt : P → X M R nL A cs sl Q tgt L st H) (kf : ¬ P → X M R nL A cs sl Q (pc + 3) L st H) : X M R nL A cs sl Q pc L (zV (bI P) :: st) H :=
  x_if_ne ho hd ht (by have := bI_r P; omega) (fun h => kt (Classical.not_not.mp fun p => h (bI_f p))) (fun h => kf (bI_0 h))
theorem x_eqI {a b : Int} (h : a = b) (k : X M R nL A cs sl Q pc L (zV b :: st) H) : X M R nL A cs sl Q pc L (zV a :: st) H := by rw [h]; exact k
theorem x_eqJ {a b : Int64} (h : a = b) (k : X M R nL A cs sl Q pc L (.long b :: st) H) : X M R nL A cs sl Q pc L (.long a :: st) H := by rw [h]; exact k
theorem x_rd {n k : Nat} {post : Option Value → Heap → Prop} {rest : List Value} (kk : ∀ v : Option Value, post v H → X M R nL A n k Q pc L (v.toList ++ rest) H) : ∀ (v : Option Value) (H1 : Heap), post v H1 → FR nA H H1 0 → X M R nL A n k Q pc L (v.toList ++ rest) H1 := fun v H1 hv hF => by
  have e := fr_none hF
  subst e
  exact kk v hv
end BROWS
-- words as lists of whole numbers
def gA (L : List Int) (z : Int) : Int := L.getD z.toNat 0
/-- the letter at a place, -1 outside -/
def lat (L : List Int) (z : Int) : Int := if 0 ≤ z ∧ z < (L.length : Int) then gA L z else -1
def wf (L : List Int) : Prop := ∀ x ∈ L, 0 ≤ x ∧ x < 4
/-- the first letters -/
def tk (L : List Int) (z : Int) : List Int := L.take z.toNat
theorem gA_get {L : List Int} {z : Int} (h0 : 0 ≤ z) (h1 : z < (L.length : Int)) : L[z.toNat]? = some (gA L z) := by
  have hl : z.toNat < L.length := by omega
  unfold gA
  rw [List.getD_eq_getElem?_getD, List.getElem?_eq_getElem hl]
  rfl
theorem gA_r {L : List Int} (h : wf L) (z : Int) : 0 ≤ gA L z ∧ gA L z < 4 := by
  unfold gA
  by_cases hz : z.toNat < L.length
  · rw [List.getD_eq_getElem?_getD, List.getElem?_eq_getElem hz]
    exact h _ (List.getElem_mem hz)
  · rw [List.getD_eq_getElem?_getD, List.getElem?_eq_none (by omega)]
    decide
theorem lat_in {L : List Int} {z : Int} (h0 : 0 ≤ z) (h1 : z < (L.length : Int)) : lat L z = gA L z := if_pos ⟨h0, h1⟩
theorem lat_out {L : List Int} {z : Int} (h : z < 0 ∨ (L.length : Int) ≤ z) : lat L z = -1 := if_neg (by omega)
theorem lat_r {L : List Int} (h : wf L) (z : Int) : -1 ≤ lat L z ∧ lat L z < 4 := by
  unfold lat
  have := gA_r h z
  split <;> omega
theorem gA_app1 {L K : List Int} {z : Int} (h0 : 0 ≤ z) (h : z < (L.length : Int)) : gA (L ++ K) z = gA L z := by
  unfold gA
  rw [List.getD_eq_getElem?_getD, List.getD_eq_getElem?_getD, List.getElem?_append_left (by omega)]
theorem gA_app2 {L K : List Int} {z : Int} (h : (L.length : Int) ≤ z) : gA (L ++ K) z = gA K (z - (L.length : Int)) := by
  unfold gA
  rw [List.getD_eq_getElem?_getD, List.getD_eq_getElem?_getD, List.getElem?_append_right (by omega)]
  congr 2
  omega
theorem gA_snoc {L : List Int} {x : Int} : gA (L ++ [x]) ((L.length : Int)) = x := by
  rw [gA_app2 (Int.le_refl _), Int.sub_self]
  rfl
theorem gA_tk {L : List Int} {i z : Int} (h0 : 0 ≤ z) (h : z < i) : gA (tk L i) z = gA L z := by
  unfold gA tk
  rw [List.getD_eq_getElem?_getD, List.getD_eq_getElem?_getD, List.getElem?_take_of_lt (by omega)]
theorem tk_len {L : List Int} {i : Int} (h0 : 0 ≤ i) (h : i ≤ (L.length : Int)) : ((tk L i).length : Int) = i := by
  unfold tk
  simp only [List.length_take]
  omega
theorem tk_0 {L : List Int} : tk L 0 = [] := by simp [tk]
theorem tk_all {L : List Int} {i : Int} (h : (L.length : Int) ≤ i) : tk L i = L := by
  unfold tk
  exact List.take_of_length_le (by omega)
theorem tk_succ {L : List Int} {i : Int} (h0 : 0 ≤ i) (h : i < (L.length : Int)) : tk L (i + 1) = tk L i ++ [gA L i] := by
  unfold tk
  rw [show (i + 1).toNat = i.toNat + 1 by omega, List.take_succ, gA_get h0 h]
  rfl
theorem tk_app {L K : List Int} {i : Int} (h : (L.length : Int) ≤ i) : tk (L ++ K) i = L ++ tk K (i - (L.length : Int)) := by
  unfold tk
  rw [List.take_append, List.take_of_length_le (by omega)]
  congr 2
  omega
theorem wf_app {L K : List Int} (h : wf L) (k : wf K) : wf (L ++ K) := fun x hx => by
  rcases List.mem_append.mp hx with q | q
  · exact h x q
  · exact k x q
theorem wf_one {x : Int} (h0 : 0 ≤ x) (h1 : x < 4) : wf [x] := fun y hy => by
  rw [List.mem_singleton.mp hy]; exact ⟨h0, h1⟩
theorem wf_tk {L : List Int} (h : wf L) (i : Int) : wf (tk L i) := fun x hx => h x (List.mem_of_mem_take hx)
theorem wf_nil : wf [] := fun _ h => by cases h
/-- two words are one if their letters are -/
theorem li_ext {L K : List Int} (h : (L.length : Int) = (K.length : Int)) (hg : ∀ j : Int, 0 ≤ j → j < (L.length : Int) → gA L j = gA K j) : L = K := by
  apply List.ext_getElem?
  intro n
  by_cases hn : n < L.length
  · have a1 := gA_get (L := L) (z := n) (by omega) (by omega)
    have a2 := gA_get (L := K) (z := n) (by omega) (by omega)
    rw [show ((n : Int)).toNat = n by omega] at a1 a2
    rw [a1, a2, hg n (by omega) (by omega)]
  · rw [List.getElem?_eq_none (by omega), List.getElem?_eq_none (by omega)]
/-- Letters at o, with room for n, with the word L -/
def isL (D : GG) (H : Heap) (o n : Nat) (L : List Int) : Prop :=
  At D H o (oO 2 [.ref (o + 1), zV ((L.length : Int))]) ∧ (∃ f : Int → Int, At D H (o + 1) (oI D n f) ∧ ∀ j : Int, 0 ≤ j → j < (L.length : Int) → f j = gA L j) ∧ L.length ≤ n ∧ n ≤ 300 ∧ wf L
theorem isL.kept {D : GG} {H H1 : Heap} {o n : Nat} {L : List Int} (h : isL D H o n L) (hq : ∀ q : Nat, o ≤ q → q < o + 2 → H1[q]? = H[q]?) : isL D H1 o n L := by
  obtain ⟨h1, ⟨f, h2, h3⟩, h4⟩ := h
  exact ⟨h1.kept (hq _ (by omega) (by omega)), ⟨f, h2.kept (hq _ (by omega) (by omega)), h3⟩, h4⟩
theorem isL.lt {D : GG} {H : Heap} {o n : Nat} {L : List Int} (h : isL D H o n L) : o + 1 < H.size := by
  obtain ⟨h1, ⟨f, h2, h3⟩, h4⟩ := h
  exact h2.lt
theorem isL.b {D : GG} {H : Heap} {o n : Nat} {L : List Int} (h : isL D H o n L) : L.length ≤ n ∧ n ≤ 300 := ⟨h.2.2.1, h.2.2.2.1⟩
theorem isL.w {D : GG} {H : Heap} {o n : Nat} {L : List Int} (h : isL D H o n L) : wf L := h.2.2.2.2
theorem isL_mk {D : GG} {H : Heap} {o n : Nat} {L : List Int} {m : Int} {f : Int → Int} (h1 : At D H o (oO 2 [.ref (o + 1), zV m])) (h2 : At D H (o + 1) (oI D n f)) (hm : m = (L.length : Int)) (hf : ∀ j : Int, 0 ≤ j → j < (L.length : Int) → f j = gA L j) (hn : L.length ≤ n) (h3 : n ≤ 300) (hw : wf L) : isL D H o n L := by
  subst hm
  exact ⟨h1, ⟨f, h2, hf⟩, hn, h3, hw⟩
theorem isL_push {D : GG} {H : Heap} {o n : Nat} {L : List Int} {x : Int} {f : Int → Int} (h1 : At D H o (oO 2 [.ref (o + 1), zV ((L.length : Int) + 1)])) (h2 : At D H (o + 1) (oI D n (zU f ((L.length : Int)) x))) (hf : ∀ j : Int, 0 ≤ j → j < (L.length : Int) → f j = gA L j) (hn : (L.length : Int) < n) (h3 : n ≤ 300) (hw : wf L) (h0 : 0 ≤ x) (h4 : x < 4) : isL D H o n (L ++ [x]) := by
  refine isL_mk h1 h2 (by simp) (fun j g0 g1 => ?_) (by simp; omega) h3 (wf_app hw (wf_one h0 h4))
  have g1' : j < (L.length : Int) + 1 := by simpa using g1
  by_cases hj : j = (L.length : Int)
  · subst hj
    rw [zU_s, gA_snoc]
  · rw [zU_n _ _ hj, gA_app1 g0 (by omega)]
    exact hf j g0 (by omega)
