def isP (D : GG) (H : Heap) (o : Nat) (t u : Int → Int) : Prop := At D H o (oO 5 [.ref (o + 1), .ref (o + 2)]) ∧ At D H (o + 1) (oI D 4 t) ∧ At D H (o + 2) (oI D 4 u)
theorem isP.kept {D : GG} {H H1 : Heap} {o : Nat} {t u : Int → Int} (h : isP D H o t u) (hq : ∀ q : Nat, o ≤ q → q < o + 3 → H1[q]? = H[q]?) : isP D H1 o t u := ⟨h.1.kept (hq _ (by omega) (by omega)), h.2.1.kept (hq _ (by omega) (by omega)), h.2.2.kept (hq _ (by omega) (by omega))⟩
theorem isP.lt {D : GG} {H : Heap} {o : Nat} {t u : Int → Int} (h : isP D H o t u) : o + 2 < H.size := h.2.2.lt
/-- partial sums of a row times the counts of letters in images -/
def psN (c : Int → List Int) (t : Int → Int) (x : Int) : Nat → Int
  | 0 => 0
  | n + 1 => psN c t x n + t (n : Int) * cn (c (n : Int)) x
def suN (t : Int → Int) : Nat → Int
  | 0 => 0
  | n + 1 => suN t n + t (n : Int)
def su (t : Int → Int) : Int := suN t 4
/-- how often each letter comes in the n-th image of a letter -/
def tN (c : Int → List Int) (x : Int) : Nat → Int → Int
  | 0 => fun j => if j = x then 1 else 0
  | n + 1 => fun j => psN c (tN c x n) j 4
theorem psN_c {c : Int → List Int} {t t' : Int → Int} (h : ∀ j : Int, 0 ≤ j → j < 4 → t j = t' j) (x : Int) : ∀ n : Nat, n ≤ 4 → psN c t x n = psN c t' x n := by
  intro n
  induction n with
  | zero => intro _; rfl
  | succ n ih =>
    intro hn
    unfold psN
    rw [ih (by omega), h _ (by omega) (by omega)]
theorem su_e (t : Int → Int) : su t = t 0 + t 1 + t 2 + t 3 := by
  show 0 + t 0 + t 1 + t 2 + t 3 = _
  omega
theorem su_c {t t' : Int → Int} (h : ∀ j : Int, 0 ≤ j → j < 4 → t j = t' j) : su t = su t' := by
  rw [su_e, su_e, h 0 (by decide) (by decide), h 1 (by decide) (by decide), h 2 (by decide) (by decide), h 3 (by decide) (by decide)]
theorem cn_all {L : List Int} (h : wf L) : cn L 0 + cn L 1 + cn L 2 + cn L 3 = (L.length : Int) := by
  induction L with
  | nil => rfl
  | cons x L ih =>
    have hx := h x List.mem_cons_self
    have hi := ih (fun y hy => h y (List.mem_cons_of_mem _ hy))
    have h4 : x = 0 ∨ x = 1 ∨ x = 2 ∨ x = 3 := by omega
    unfold cn at *
    rcases h4 with rfl | rfl | rfl | rfl <;> simp [List.count_cons] <;> omega
theorem psN_e (c : Int → List Int) (t : Int → Int) (x : Int) : psN c t x 4 = t 0 * cn (c 0) x + t 1 * cn (c 1) x + t 2 * cn (c 2) x + t 3 * cn (c 3) x := by
  show 0 + t 0 * cn (c 0) x + t 1 * cn (c 1) x + t 2 * cn (c 2) x + t 3 * cn (c 3) x = _
  omega
theorem su_step {c : Int → List Int} (hc : ∀ i : Int, 0 ≤ i → i < 4 → wf (c i)) (t : Int → Int) : su (fun j => psN c t j 4) = t 0 * ((c 0).length : Int) + t 1 * ((c 1).length : Int) + t 2 * ((c 2).length : Int) + t 3 * ((c 3).length : Int) := by
  rw [su_e, psN_e, psN_e, psN_e, psN_e, ← cn_all (hc 0 (by decide) (by decide)), ← cn_all (hc 1 (by decide) (by decide)), ← cn_all (hc 2 (by decide) (by decide)), ← cn_all (hc 3 (by decide) (by decide))]
  simp only [Int.mul_add]
  omega
theorem mul_1 {t k : Int} (ht : 0 ≤ t) (h1 : 1 ≤ k) (h8 : k ≤ 8) : t ≤ t * k ∧ t * k ≤ 8 * t := by
  have a := Int.mul_le_mul_of_nonneg_left h1 ht
  have b := Int.mul_le_mul_of_nonneg_left h8 ht
  omega
theorem mul_0 {t k : Int} (ht : 0 ≤ t) (h : 0 ≤ k) : 0 ≤ t * k := Int.mul_nonneg ht h
theorem psN_0 {c : Int → List Int} {t : Int → Int} (h : ∀ j : Int, 0 ≤ j → j < 4 → 0 ≤ t j) (x : Int) : 0 ≤ psN c t x 4 := by
  rw [psN_e]
  have h0 := mul_0 (h 0 (by decide) (by decide)) (cn_r (c 0) x).1
  have h1 := mul_0 (h 1 (by decide) (by decide)) (cn_r (c 1) x).1
  have h2 := mul_0 (h 2 (by decide) (by decide)) (cn_r (c 2) x).1
  have h3 := mul_0 (h 3 (by decide) (by decide)) (cn_r (c 3) x).1
  omega
theorem tN_0 (c : Int → List Int) (x : Int) : ∀ (n : Nat) (j : Int), 0 ≤ tN c x n j := by
  intro n
  induction n with
  | zero => intro j; unfold tN; split <;> omega
  | succ n ih => intro j; exact psN_0 (fun i _ _ => ih i) j
theorem su_mono {c : Int → List Int} (hc : ∀ i : Int, 0 ≤ i → i < 4 → wf (c i) ∧ 1 ≤ ((c i).length : Int) ∧ ((c i).length : Int) ≤ 8) (x : Int) (n : Nat) : su (tN c x n) ≤ su (tN c x (n + 1)) ∧ su (tN c x (n + 1)) ≤ 8 * su (tN c x n) ∧ 0 ≤ su (tN c x n) := by
  have e := su_step (fun i a b => (hc i a b).1) (tN c x n)
  have e2 : su (tN c x (n + 1)) = su (fun j => psN c (tN c x n) j 4) := rfl
  rw [e2, e, su_e]
  have a0 := mul_1 (tN_0 c x n 0) (hc 0 (by decide) (by decide)).2.1 (hc 0 (by decide) (by decide)).2.2
  have a1 := mul_1 (tN_0 c x n 1) (hc 1 (by decide) (by decide)).2.1 (hc 1 (by decide) (by decide)).2.2
  have a2 := mul_1 (tN_0 c x n 2) (hc 2 (by decide) (by decide)).2.1 (hc 2 (by decide) (by decide)).2.2
  have a3 := mul_1 (tN_0 c x n 3) (hc 3 (by decide) (by decide)).2.1 (hc 3 (by decide) (by decide)).2.2
  have b0 := tN_0 c x n 0
  have b1 := tN_0 c x n 1
  have b2 := tN_0 c x n 2
  have b3 := tN_0 c x n 3
  omega
theorem su_mono' {c : Int → List Int} (hc : ∀ i : Int, 0 ≤ i → i < 4 → wf (c i) ∧ 1 ≤ ((c i).length : Int) ∧ ((c i).length : Int) ≤ 8) (x : Int) {n m : Nat} (h : n ≤ m) : su (tN c x n) ≤ su (tN c x m) := by
  induction m with
  | zero => rw [show n = 0 by omega]; exact Int.le_refl _
  | succ m ih =>
    by_cases e : n = m + 1
    · rw [e]; exact Int.le_refl _
    · have := ih (by omega)
      have := (su_mono hc x m).1
      omega
-- runs
def isG (D : GG) (H : Heap) (o : Nat) (pe pl le : Int) : Prop := At D H o (oO 0 [zV pe, zV pl, zV le])
theorem isG.kept {D : GG} {H H1 : Heap} {o : Nat} {pe pl le : Int} (h : isG D H o pe pl le) (hq : ∀ q : Nat, o ≤ q → q < o + 1 → H1[q]? = H[q]?) : isG D H1 o pe pl le := by
  have h' : At D H o (oO 0 [zV pe, zV pl, zV le]) := h
  exact h'.kept (hq o (by omega) (by omega))
theorem isG.lt {D : GG} {H : Heap} {o : Nat} {pe pl le : Int} (h : isG D H o pe pl le) : o < H.size := by
  have h' : At D H o (oO 0 [zV pe, zV pl, zV le]) := h
  exact h'.lt
abbrev GV : Type := Int × Int × Int × Int
/-- one letter more of the look for runs with a period: how many are the same, the best period, place and length -/
def grS (L : List Int) (t k : Int) (s : GV) : GV :=
  let sa := if gA L (t + k) = gA L k then s.1 + 1 else 0
  if s.2.2.2 * t < (t + sa) * s.2.1 then (sa, t, k - sa + 1, t + sa) else (sa, s.2)
def grI (L : List Int) (t : Int) (s : GV) : Nat → GV
  | 0 => s
  | n + 1 => grS L t (n : Int) (grI L t s n)
def grO (L : List Int) : Nat → Int × Int × Int
  | 0 => (1, 0, 1)
  | n + 1 => (grI L ((n : Int) + 1) (0, grO L n) ((L.length : Int) - ((n : Int) + 1)).toNat).2
theorem mul_9 {a b : Int} (ha : 0 ≤ a ∧ a ≤ 300) (hb : 0 ≤ b ∧ b ≤ 300) : 0 ≤ a * b ∧ a * b ≤ 90000 := by
  have h1 := Int.mul_nonneg ha.1 hb.1
  have h2 := Int.mul_le_mul ha.2 hb.2 hb.1 (by decide)
  omega
-- mirrored pieces
def isM (D : GG) (H : Heap) (o : Nat) (pl le : Int) : Prop := At D H o (oO 3 [zV pl, zV le])
theorem isM.kept {D : GG} {H H1 : Heap} {o : Nat} {pl le : Int} (h : isM D H o pl le) (hq : ∀ q : Nat, o ≤ q → q < o + 1 → H1[q]? = H[q]?) : isM D H1 o pl le := by
  have h' : At D H o (oO 3 [zV pl, zV le]) := h
  exact h'.kept (hq o (by omega) (by omega))
theorem isM.lt {D : GG} {H : Heap} {o : Nat} {pl le : Int} (h : isM D H o pl le) : o < H.size := by
  have h' : At D H o (oO 3 [zV pl, zV le]) := h
  exact h'.lt
def mir (L : List Int) (a s : Int) : Prop := ∀ j : Int, 0 ≤ j → j < s / 2 → gA L (a + j) = gA L (a + s - 1 - j)
theorem mir_grow {L : List Int} {a s : Int} (hs : 0 ≤ s) (h : mir L a s) (e : gA L (a - 1) = gA L (a + s)) : mir L (a - 1) (s + 2) := by
  intro j h0 h1
  by_cases hj : j = 0
  · subst hj
    rw [show a - 1 + 0 = a - 1 by omega, show a - 1 + (s + 2) - 1 - 0 = a + s by omega]
    exact e
  · have := h (j - 1) (by omega) (by omega)
    rw [show a - 1 + j = a + (j - 1) by omega, show a - 1 + (s + 2) - 1 - j = a + s - 1 - (j - 1) by omega]
    exact this
theorem mir_shrink {L : List Int} {a s : Int} (h : mir L a s) (hs : 2 ≤ s) : mir L (a + 1) (s - 2) := by
  intro j h0 h1
  have := h (j + 1) (by omega) (by omega)
  rw [show a + 1 + j = a + (j + 1) by omega, show a + 1 + (s - 2) - 1 - j = a + s - 1 - (j + 1) by omega]
  exact this
theorem mir_sub {L : List Int} : ∀ (n : Nat) (a s : Int), mir L a s → 2 * (n : Int) ≤ s → mir L (a + n) (s - 2 * n) := by
  intro n
  induction n with
  | zero => intro a s h _; simpa using h
  | succ n ih =>
    intro a s h hs
    have := mir_shrink (ih a s h (by omega)) (by omega)
    rw [show a + ((n + 1 : Nat) : Int) = a + n + 1 by omega, show s - 2 * ((n + 1 : Nat) : Int) = s - 2 * n - 2 by omega]
    exact this
theorem mir_ends {L : List Int} {a s : Int} (h : mir L a s) (hs : 2 ≤ s) : gA L a = gA L (a + s - 1) := by
  have := h 0 (by omega) (by omega)
  rw [show a + 0 = a by omega, show a + s - 1 - 0 = a + s - 1 by omega] at this
  exact this
/-- the longest mirrored piece around a middle m (the sum of its first and its last place) -/
def maxM (L : List Int) (m a s : Int) : Prop := 0 ≤ s ∧ 2 * a + s - 1 = m ∧ 0 ≤ a ∧ a + s ≤ (L.length : Int) ∧ mir L a s ∧ ∀ a' s' : Int, 0 ≤ a' → a' + s' ≤ (L.length : Int) → 2 * a' + s' - 1 = m → mir L a' s' → s' ≤ s
/-- the best one so far, of the middles below m -/
def besM (L : List Int) (m pl le : Int) : Prop := 0 ≤ le ∧ 0 ≤ pl ∧ pl + le ≤ (L.length : Int) ∧ mir L pl le ∧ (1 ≤ le → 2 * pl + le - 1 < m) ∧ ∀ a s : Int, 0 ≤ a → 1 ≤ s → a + s ≤ (L.length : Int) → 2 * a + s - 1 < m → mir L a s → s ≤ le ∧ (s = le → pl ≤ a)
theorem besM_next {L : List Int} {m pl le a s : Int} (h : besM L m pl le) (k : maxM L m a s) : besM L (m + 1) (if le < s then a else pl) (if le < s then s else le) := by
  obtain ⟨h1, h2, h3, h4, h6, h5⟩ := h
  obtain ⟨k1, k2, k3, k4, k5, k6⟩ := k
  by_cases c : le < s
  · rw [if_pos c, if_pos c]
    refine ⟨by omega, k3, k4, k5, fun _ => by omega, fun b z g1 g2 g3 g4 g5 => ?_⟩
    by_cases hm : 2 * b + z - 1 < m
    · have := h5 b z g1 g2 g3 hm g5
      omega
    · have := k6 b z g1 g3 (by omega) g5
      omega
  · rw [if_neg c, if_neg c]
    refine ⟨by omega, h2, h3, h4, fun q => by have := h6 q; omega, fun b z g1 g2 g3 g4 g5 => ?_⟩
    by_cases hm : 2 * b + z - 1 < m
    · exact h5 b z g1 g2 g3 hm g5
    · have hz := k6 b z g1 g3 (by omega) g5
      refine ⟨by omega, fun e => ?_⟩
      have := h6 (by omega)
      omega
/-- the longest mirrored piece of a word, of several the first one -/
def bestM (L : List Int) (pl le : Int) : Prop := 1 ≤ le ∧ 0 ≤ pl ∧ pl + le ≤ (L.length : Int) ∧ mir L pl le ∧ ∀ a s : Int, 0 ≤ a → 1 ≤ s → a + s ≤ (L.length : Int) → mir L a s → s ≤ le ∧ (s = le → pl ≤ a)
theorem bestM_u {L : List Int} {a b c d : Int} (h : bestM L a b) (k : bestM L c d) : a = c ∧ b = d := by
  obtain ⟨h1, h2, h3, h4, h5⟩ := h
  obtain ⟨k1, k2, k3, k4, k5⟩ := k
  have x := h5 c d k2 k1 k3 k4
  have y := k5 a b h2 h1 h3 h4
  omega
theorem gv_eq {a b c d a' b' c' d' : Int} (h1 : a = a') (h2 : b = b') (h3 : c = c') (h4 : d = d') : ((a, b, c, d) : GV) = (a', b', c', d') := by
  subst h1; subst h2; subst h3; subst h4; rfl
theorem grS_a {L : List Int} {t k sa p1 p2 p3 : Int} (h : ¬ gA L (t + k) = gA L k) (c : (t + 0) * p1 ≤ p3 * t) : grS L t k (sa, p1, p2, p3) = (0, p1, p2, p3) := by
  unfold grS
  simp only [if_neg h]
  rw [if_neg (by omega)]
theorem grS_b {L : List Int} {t k sa p1 p2 p3 : Int} (h : ¬ gA L (t + k) = gA L k) (c : ¬ (t + 0) * p1 ≤ p3 * t) : grS L t k (sa, p1, p2, p3) = (0, t, k - 0 + 1, t + 0) := by
  unfold grS
  simp only [if_neg h]
  rw [if_pos (by omega)]
theorem grS_c {L : List Int} {t k sa p1 p2 p3 : Int} (h : gA L (t + k) = gA L k) (c : (t + (sa + 1)) * p1 ≤ p3 * t) : grS L t k (sa, p1, p2, p3) = (sa + 1, p1, p2, p3) := by
  unfold grS
  simp only [if_pos h]
  rw [if_neg (by omega)]
theorem grS_d {L : List Int} {t k sa p1 p2 p3 : Int} (h : gA L (t + k) = gA L k) (c : ¬ (t + (sa + 1)) * p1 ≤ p3 * t) : grS L t k (sa, p1, p2, p3) = (sa + 1, t, k - (sa + 1) + 1, t + (sa + 1)) := by
  unfold grS
  simp only [if_pos h]
  rw [if_pos (by omega)]
theorem mir_small {L : List Int} {a s : Int} (h : s ≤ 1) : mir L a s := fun j h0 h1 => by omega
theorem mir_back {L : List Int} {x y : Int} (h : mir L (x + 1) (y - x - 1)) (hxy : x ≤ y) (e : gA L x = gA L y) : mir L x (y - x + 1) := by
  by_cases hs : 0 ≤ y - x - 1
  · have := mir_grow hs h (by rw [show x + 1 - 1 = x by omega, show x + 1 + (y - x - 1) = y by omega]; exact e)
    rw [show x + 1 - 1 = x by omega, show y - x - 1 + 2 = y - x + 1 by omega] at this
    exact this
  · exact mir_small (by omega)
theorem maxM_of {L : List Int} {x y m : Int} (hm : x + y = m) (hx : -1 ≤ x) (hy : y ≤ (L.length : Int)) (hs : 0 ≤ y - x - 1) (h : mir L (x + 1) (y - x - 1)) (he : x < 0 ∨ (L.length : Int) ≤ y ∨ ¬ gA L x = gA L y) : maxM L m (x + 1) (y - x - 1) := by
  refine ⟨hs, by omega, by omega, by omega, h, fun a s g1 g2 g3 g4 => ?_⟩
  by_cases hle : s ≤ y - x - 1
  · exact hle
  · exfalso
    have g5 := mir_sub (x - a).toNat a s g4 (by omega)
    rw [show a + (((x - a).toNat : Nat) : Int) = x by omega, show s - 2 * (((x - a).toNat : Nat) : Int) = y - x + 1 by omega] at g5
    have g6 := mir_ends g5 (by omega)
    rw [show x + (y - x + 1) - 1 = y by omega] at g6
    rcases he with q | q | q
    · omega
    · omega
    · exact q g6
theorem best_of {L : List Int} {pl le : Int} (h : besM L (2 * (L.length : Int)) pl le) (hL : 1 ≤ (L.length : Int)) : bestM L pl le := by
  obtain ⟨h1, h2, h3, h4, h6, h5⟩ := h
  have h7 := h5 0 1 (by omega) (by omega) (by omega) (by omega) (mir_small (by omega))
  exact ⟨h7.1, h2, h3, h4, fun a s g1 g2 g3 g4 => h5 a s g1 g2 g3 (by omega) g4⟩
theorem besM_0 {L : List Int} : besM L 0 0 0 := ⟨by omega, by omega, by omega, mir_small (by omega), fun h => by omega, fun a s g1 g2 g3 g4 => by omega⟩
