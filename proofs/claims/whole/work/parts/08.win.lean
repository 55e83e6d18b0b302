/-- one letter more -/
theorem cn_lat {L : List Int} {i z : Int} (hz : 0 ≤ z) (h : i < (L.length : Int)) : cn (tk L (i + 1)) z = cn (tk L i) z + bI (lat L i = z) := by
  by_cases h0 : 0 ≤ i
  · rw [tk_succ h0 h, cn_snoc, lat_in h0 h]
    by_cases e : gA L i = z
    · rw [bI_t e, if_pos e]
    · rw [bI_f e, if_neg e]
  · have e1 : tk L (i + 1) = [] := by unfold tk; rw [show (i + 1).toNat = 0 by omega]; rfl
    have e2 : tk L i = [] := by unfold tk; rw [show i.toNat = 0 by omega]; rfl
    rw [e1, e2, lat_out (by omega), bI_f (by omega)]
    rfl
/-- how often a letter comes in a stretch -/
def cw (L : List Int) (z s p : Int) : Int := cn (tk L (p + s)) z - cn (tk L p) z
theorem cw_r {L : List Int} {z p : Int} (hz : 0 ≤ z) : ∀ (k : Nat), p + k ≤ (L.length : Int) → 0 ≤ cw L z k p ∧ cw L z k p ≤ k := by
  intro k
  induction k with
  | zero => intro _; unfold cw; rw [show p + ((0 : Nat) : Int) = p by omega]; omega
  | succ k ih =>
    intro h
    have h1 := ih (by omega)
    have h2 := cn_lat (L := L) (i := p + k) hz (by omega)
    have h3 := bI_r (lat L (p + k) = z)
    unfold cw at *
    rw [show p + ((k + 1 : Nat) : Int) = p + k + 1 by omega, h2]
    omega
theorem cw_r' {L : List Int} {z s p : Int} (hz : 0 ≤ z) (hs : 0 ≤ s) (h : p + s ≤ (L.length : Int)) : 0 ≤ cw L z s p ∧ cw L z s p ≤ s := by
  have := cw_r (L := L) (p := p) hz s.toNat (by omega)
  rw [show ((s.toNat : Nat) : Int) = s by omega] at this
  exact this
/-- of all stretches of a length that end by e: how often a letter comes at most, at least -/
def isMM (L : List Int) (z s e mx mn : Int) : Prop := (∀ p : Int, 0 ≤ p → p + s ≤ e → mn ≤ cw L z s p ∧ cw L z s p ≤ mx) ∧ (∃ p : Int, 0 ≤ p ∧ p + s ≤ e ∧ cw L z s p = mx) ∧ ∃ p : Int, 0 ≤ p ∧ p + s ≤ e ∧ cw L z s p = mn
theorem isMM_one {L : List Int} {z s e mx mn a : Int} (he : e = s) (ha : a = cw L z s 0) (h1 : mx = a) (h2 : mn = a) : isMM L z s e mx mn := by
  subst he; subst h1; subst h2
  refine ⟨fun p h0 h1 => ?_, ⟨0, by omega, by omega, ha.symm⟩, ⟨0, by omega, by omega, ha.symm⟩⟩
  rw [show p = 0 by omega, ← ha]
  omega
theorem isMM_next {L : List Int} {z s e mx mn a mx' mn' : Int} (h : isMM L z s e mx mn) (hs : s ≤ e) (ha : a = cw L z s (e + 1 - s)) (h1 : mx' = if mx < a then a else mx) (h2 : mn' = if a < mn then a else mn) : isMM L z s (e + 1) mx' mn' := by
  obtain ⟨g1, ⟨p, p0, p1, p2⟩, ⟨q, q0, q1, q2⟩⟩ := h
  have hb := g1 p p0 p1
  refine ⟨fun r h0 hr => ?_, ?_, ?_⟩
  · by_cases hr' : r + s ≤ e
    · have := g1 r h0 hr'
      omega
    · rw [show r = e + 1 - s by omega, ← ha]
      omega
  · by_cases c : mx < a
    · rw [if_pos c] at h1
      exact ⟨e + 1 - s, by omega, by omega, by omega⟩
    · rw [if_neg c] at h1
      exact ⟨p, p0, by omega, by omega⟩
  · by_cases c : a < mn
    · rw [if_pos c] at h2
      exact ⟨e + 1 - s, by omega, by omega, by omega⟩
    · rw [if_neg c] at h2
      exact ⟨q, q0, by omega, by omega⟩
theorem isMM_u {L : List Int} {z s e a b c d : Int} (h : isMM L z s e a b) (k : isMM L z s e c d) : a = c ∧ b = d := by
  obtain ⟨g1, ⟨p, p0, p1, p2⟩, ⟨q, q0, q1, q2⟩⟩ := h
  obtain ⟨k1, ⟨r, r0, r1, r2⟩, ⟨t, t0, t1, t2⟩⟩ := k
  have a1 := g1 r r0 r1
  have a2 := g1 t t0 t1
  have a3 := k1 p p0 p1
  have a4 := k1 q q0 q1
  omega
theorem cn_d {L : List Int} {z s i : Int} (hz : 0 ≤ z) (hs : 0 ≤ s) (h0 : 0 ≤ i) (h1 : i ≤ (L.length : Int)) : 0 ≤ cn (tk L i) z - cn (tk L (i - s)) z ∧ cn (tk L i) z - cn (tk L (i - s)) z ≤ i := by
  by_cases h : s ≤ i
  · have := cw_r' (L := L) (z := z) (s := s) (p := i - s) hz hs (by omega)
    unfold cw at this
    rw [show i - s + s = i by omega] at this
    omega
  · have e : tk L (i - s) = [] := by unfold tk; rw [show (i - s).toNat = 0 by omega]; rfl
    have h2 := cn_r (tk L i) z
    have h3 := tk_len (L := L) h0 h1
    rw [e, cn_nil]
    omega
theorem isMM_step {L : List Int} {z s i t mo le : Int} (hz : 0 ≤ z) (hs : 1 ≤ s) (hi : s ≤ i + 1) (hl : i + 1 ≤ (L.length : Int)) (ht : t = cn (tk L (i + 1)) z - cn (tk L (i + 1 - s)) z) (h1 : i < s → mo = 0 ∧ le = s) (h2 : s ≤ i → isMM L z s i mo le) : isMM L z s (i + 1) (if mo < t then t else mo) (if t < le then t else le) := by
  have ha : t = cw L z s (i + 1 - s) := by unfold cw; rw [show i + 1 - s + s = i + 1 by omega]; exact ht
  have hr := cw_r' (L := L) (z := z) (s := s) (p := i + 1 - s) hz (by omega) (by omega)
  rw [← ha] at hr
  by_cases h : s ≤ i
  · exact isMM_next (h2 h) h ha rfl rfl
  · obtain ⟨e1, e2⟩ := h1 (by omega)
    exact isMM_one (a := t) (by omega) (by rw [show (0 : Int) = i + 1 - s by omega]; exact ha) (by omega) (by omega)
