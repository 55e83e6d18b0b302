def cdN (L : List Int) (p : Int) : Nat → Nat
  | 0 => 0
  | k + 1 => cdN L p k * 4 + (gA L (p + (k : Int))).toNat
theorem cdN_lt {L : List Int} (h : wf L) (p : Int) : ∀ k : Nat, cdN L p k < 4 ^ k := by
  intro k
  induction k with
  | zero => show 0 < 1; omega
  | succ k ih =>
    have := gA_r h (p + (k : Int))
    rw [cdN, Nat.pow_succ]
    omega
theorem cdN_split (L : List Int) (p : Int) (a : Nat) : ∀ b : Nat, cdN L p (a + b) = cdN L p a * 4 ^ b + cdN L (p + (a : Int)) b := by
  intro b
  induction b with
  | zero => show cdN L p a = cdN L p a * 1 + 0; omega
  | succ b ih =>
    rw [show a + (b + 1) = a + b + 1 by omega, cdN, ih, cdN, Nat.pow_succ, show p + ((a + b : Nat) : Int) = p + (a : Int) + (b : Int) by omega]
    rw [Nat.add_mul, Nat.mul_assoc]
    omega
theorem cdN_mod {L : List Int} (h : wf L) {i s : Nat} (hs : s ≤ i) : cdN L 0 i % 4 ^ s = cdN L ((i : Int) - s) s := by
  have e := cdN_split L 0 (i - s) s
  rw [show i - s + s = i by omega] at e
  rw [e, Nat.add_comm, Nat.add_mul_mod_self_right, Nat.mod_eq_of_lt (cdN_lt h _ s), show (0 : Int) + ((i - s : Nat) : Int) = (i : Int) - s by omega]
def eqP (L : List Int) (p q s : Int) : Prop := ∀ j : Int, 0 ≤ j → j < s → gA L (p + j) = gA L (q + j)
theorem cdN_inj {L : List Int} (h : wf L) (p q : Int) : ∀ k : Nat, cdN L p k = cdN L q k ↔ ∀ j : Int, 0 ≤ j → j < k → gA L (p + j) = gA L (q + j) := by
  intro k
  induction k with
  | zero => exact ⟨fun _ j h0 h1 => by omega, fun _ => rfl⟩
  | succ k ih =>
    have hp := gA_r h (p + (k : Int))
    have hq := gA_r h (q + (k : Int))
    rw [cdN, cdN]
    constructor
    · intro e j h0 h1
      by_cases hj : j = (k : Int)
      · subst hj; omega
      · exact ih.mp (by omega) j h0 (by omega)
    · intro e
      have h1 := ih.mpr (fun j g0 g1 => e j g0 (by omega))
      have h2 := e (k : Int) (by omega) (by omega)
      omega
theorem pow4 (k : Nat) : 4 ^ k = 2 ^ (2 * k) := by rw [Nat.pow_mul]
theorem code_step {T s y : Nat} (hy : y < 4) : ((T % 4 ^ s * 4) ||| y) % 2 ^ (2 * s) = (T * 4 + y) % 4 ^ s := by
  have e1 : (T % 4 ^ s * 4) ||| y = T % 4 ^ s * 4 + y := by
    have := Nat.two_pow_add_eq_or_of_lt (i := 2) (b := y) (by omega) (T % 4 ^ s)
    rw [Nat.mul_comm] at this
    exact this.symm
  rw [e1, ← pow4, Nat.add_mod, Nat.mul_mod, Nat.mod_mod, ← Nat.mul_mod, ← Nat.add_mod]
theorem lsh1 {a : Int} (h : 0 ≤ a ∧ a < 64) : lN 1 <<< ((zI a).toInt64 &&& 63) = lN (2 ^ a.toNat) := by
  have e := wb_shl 1 (k := a.toNat) (by omega)
  rw [show nI a.toNat = zI a by unfold nI; rw [zI_nat, show ((a.toNat : Nat) : Int) = a by omega], Nat.one_mul] at e
  exact e
theorem lsh2 (n : Nat) : lN n <<< ((zI 2).toInt64 &&& 63) = lN (n * 4) := by
  have e := wb_shl n (k := 2) (by decide)
  rw [show nI 2 = zI 2 from zI_nat 2] at e
  exact e
theorem i2l_N {y : Int} (h : 0 ≤ y ∧ y < 4) : (zI y).toInt64 = lN y.toNat := by
  have e := nI_l (n := y.toNat) (by omega)
  rw [show nI y.toNat = zI y by unfold nI; rw [zI_nat, show ((y.toNat : Nat) : Int) = y by omega]] at e
  exact e
theorem p40 {s : Nat} (h : s ≤ 20) : 4 ^ s ≤ 1099511627776 := Nat.pow_le_pow_right (n := 4) (by decide) h
theorem lN_inj {a b : Nat} (ha : a < 1099511627776) (hb : b < 1099511627776) : lN a = lN b ↔ a = b := pk_lEQ (by omega) (by omega)
def nP (L : List Int) (s : Int) : Int := if s ≤ (L.length : Int) then (L.length : Int) - s + 1 else 0
def isPT (D : GG) (H : Heap) (o : Nat) (fd : Int) (g : Int → Int64) : Prop := At D H o (oO 4 [.ref (o + 1), zV fd]) ∧ At D H (o + 1) (oJ D 300 g)
theorem isPT.kept {D : GG} {H H1 : Heap} {o : Nat} {fd : Int} {g : Int → Int64} (h : isPT D H o fd g) (hq : ∀ q : Nat, o ≤ q → q < o + 2 → H1[q]? = H[q]?) : isPT D H1 o fd g := ⟨h.1.kept (hq _ (by omega) (by omega)), h.2.kept (hq _ (by omega) (by omega))⟩
theorem isPT.lt {D : GG} {H : Heap} {o : Nat} {fd : Int} {g : Int → Int64} (h : isPT D H o fd g) : o + 1 < H.size := h.2.lt
/-- the letters at a distance from some places, as a set -/
noncomputable def nbN (L : List Int) (E : Int → Prop) (d : Int) : Nat → Int
  | 0 => 0
  | n + 1 => @ite _ (¬ lat L ((n : Int) + d) = -1 ∧ E (n : Int)) (Classical.propDecidable _) (orI (nbN L E d n) (sh (lat L ((n : Int) + d)))) (nbN L E d n)
theorem nbN_t {L : List Int} {E : Int → Prop} {d : Int} {n : Nat} (h : ¬ lat L ((n : Int) + d) = -1 ∧ E (n : Int)) : nbN L E d (n + 1) = orI (nbN L E d n) (sh (lat L ((n : Int) + d))) := by rw [nbN, if_pos h]
theorem nbN_f {L : List Int} {E : Int → Prop} {d : Int} {n : Nat} (h : ¬ (¬ lat L ((n : Int) + d) = -1 ∧ E (n : Int))) : nbN L E d (n + 1) = nbN L E d n := by rw [nbN, if_neg h]
theorem nbN_16 {L : List Int} (hw : wf L) (E : Int → Prop) (d : Int) : ∀ n : Nat, 0 ≤ nbN L E d n ∧ nbN L E d n < 16 := by
  intro n
  induction n with
  | zero => exact ⟨Int.le_refl _, by show (0 : Int) < 16; omega⟩
  | succ n ih =>
    rcases Classical.em (¬ lat L ((n : Int) + d) = -1 ∧ E (n : Int)) with h | h
    · rw [nbN_t h]
      have := lat_r hw ((n : Int) + d)
      exact orI_16 ih (sh_16 (by omega) (by omega))
    · rw [nbN_f h]; exact ih
theorem nbN_c {L : List Int} {E E' : Int → Prop} {d : Int} : ∀ n : Nat, (∀ q : Int, 0 ≤ q → q < n → (E q ↔ E' q)) → nbN L E d n = nbN L E' d n := by
  intro n
  induction n with
  | zero => intro _; rfl
  | succ n ih =>
    intro h
    have e := ih (fun q h0 h1 => h q h0 (by omega))
    have hn := h (n : Int) (by omega) (by omega)
    rcases Classical.em (¬ lat L ((n : Int) + d) = -1 ∧ E (n : Int)) with q | q
    · rw [nbN_t q, nbN_t ⟨q.1, hn.mp q.2⟩, e]
    · rw [nbN_f q, nbN_f (fun z => q ⟨z.1, hn.mpr z.2⟩), e]
theorem nbN_none {L : List Int} {E : Int → Prop} {d : Int} : ∀ n : Nat, (∀ q : Int, 0 ≤ q → q < n → ¬ E q) → nbN L E d n = 0 := by
  intro n
  induction n with
  | zero => intro _; rfl
  | succ n ih =>
    intro h
    rw [nbN_f (fun z => h (n : Int) (by omega) (by omega) z.2)]
    exact ih (fun q h0 h1 => h q h0 (by omega))
/-- whether a piece counts -/
def ctP (L : List Int) (E : Int → Prop) (p s what : Int) (n : Nat) : Prop := (what = 1 → 2 ≤ pop (nbN L E s n)) ∧ (what = 2 → 2 ≤ pop (nbN L E (-1) n)) ∧ (what = 3 → mir L p s)
noncomputable def pcN (P : Int → Prop) : Nat → Int
  | 0 => 0
  | n + 1 => pcN P n + bI (P (n : Int))
theorem pcN_r (P : Int → Prop) : ∀ n : Nat, 0 ≤ pcN P n ∧ pcN P n ≤ n := by
  intro n
  induction n with
  | zero => exact ⟨Int.le_refl _, Int.le_refl _⟩
  | succ n ih => rw [pcN]; have := bI_r (P (n : Int)); omega
theorem pcN_c {P P' : Int → Prop} : ∀ n : Nat, (∀ q : Int, 0 ≤ q → q < n → (P q ↔ P' q)) → pcN P n = pcN P' n := by
  intro n
  induction n with
  | zero => intro _; rfl
  | succ n ih =>
    intro h
    rw [pcN, pcN, ih (fun q h0 h1 => h q h0 (by omega)), bI_iff (h (n : Int) (by omega) (by omega))]
def fstP (L : List Int) (p s : Int) : Prop := ∀ e : Int, 0 ≤ e → e < p → ¬ eqP L e p s
/-- how many different pieces of a length there are -/
noncomputable def pcs (L : List Int) (s what : Int) : Int := pcN (fun p => fstP L p s ∧ ctP L (fun q => eqP L q p s) p s what (nP L s).toNat) (nP L s).toNat
theorem mir_lat {L : List Int} {a s : Int} (h0 : 0 ≤ a) (hs : 0 ≤ s) (h : a + s ≤ (L.length : Int)) : (∀ j : Int, 0 ≤ j → j < s / 2 → lat L (a + j) = lat L (a + s - 1 - j)) ↔ mir L a s := by
  constructor
  · intro q j g0 g1
    have := q j g0 g1
    rw [lat_in (by omega) (by omega), lat_in (by omega) (by omega)] at this
    exact this
  · intro q j g0 g1
    rw [lat_in (by omega) (by omega), lat_in (by omega) (by omega)]
    exact q j g0 g1
theorem pcs_of {L : List Int} {s what : Int} {g : Int → Int64} (hw : wf L) (hs : 1 ≤ s ∧ s ≤ 20) (hg : ∀ p : Int, 0 ≤ p → p < nP L s → g p = lN (cdN L p s.toNat)) : pcN (fun p => (∀ e : Int, 0 ≤ e → e < p → ¬ g e = g p) ∧ ctP L (fun q => p ≤ q ∧ g q = g p) p s what (nP L s).toNat) (nP L s).toNat = pcs L s what := by
  have hn0 : 0 ≤ nP L s := by unfold nP; split <;> omega
  have key : ∀ p q : Int, 0 ≤ p → p < nP L s → 0 ≤ q → q < nP L s → (g p = g q ↔ eqP L p q s) := by
    intro p q a b c d
    have l1 := cdN_lt hw p s.toNat
    have l2 := cdN_lt hw q s.toNat
    have l3 := p40 (s := s.toNat) (by omega)
    rw [hg p a b, hg q c d, lN_inj (by omega) (by omega), cdN_inj hw]
    unfold eqP
    rw [show ((s.toNat : Nat) : Int) = s by omega]
  unfold pcs
  apply pcN_c
  intro p h0 h1
  have hp : p < nP L s := by omega
  have hf : (∀ e : Int, 0 ≤ e → e < p → ¬ g e = g p) ↔ fstP L p s := by
    constructor
    · intro q e a b z; exact q e a b ((key e p a (by omega) h0 hp).mpr z)
    · intro q e a b z; exact q e a b ((key e p a (by omega) h0 hp).mp z)
  have hnb : fstP L p s → ∀ d : Int, nbN L (fun q => p ≤ q ∧ g q = g p) d (nP L s).toNat = nbN L (fun q => eqP L q p s) d (nP L s).toNat := by
    intro hfp d
    apply nbN_c
    intro q a b
    constructor
    · rintro ⟨-, z⟩; exact (key q p a (by omega) h0 hp).mp z
    · intro z
      refine ⟨?_, (key q p a (by omega) h0 hp).mpr z⟩
      by_cases c : p ≤ q
      · exact c
      · exact absurd z (hfp q a (by omega))
  constructor
  · rintro ⟨a, b⟩
    have hfp := hf.mp a
    refine ⟨hfp, ?_⟩
    unfold ctP at *
    rw [← hnb hfp, ← hnb hfp]
    exact b
  · rintro ⟨a, b⟩
    refine ⟨hf.mpr a, ?_⟩
    unfold ctP at *
    rw [hnb a, hnb a]
    exact b
