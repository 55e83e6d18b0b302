def andM (a : Int) : Int := ((a.toNat &&& (a - 1).toNat : Nat) : Int)
theorem andM_N : ∀ a, a < 16 → zI ((a : Nat) : Int) &&& zI (((a : Nat) : Int) - 1) = zI (andM (a : Int)) ∧ (0 ≤ andM (a : Int) ∧ andM (a : Int) < 16) ∧ (andM (a : Int) = 0 ↔ ¬ 2 ≤ pop (a : Int)) := by decide +kernel
theorem andM_e {a : Int} (h : 0 ≤ a ∧ a < 16) : zI a &&& zI (a - 1) = zI (andM a) ∧ (0 ≤ andM a ∧ andM a < 16) ∧ (andM a = 0 ↔ ¬ 2 ≤ pop a) := by
  have := andM_N a.toNat (by omega)
  rw [show ((a.toNat : Nat) : Int) = a by omega] at this
  exact this
section MANY
variable {D : GG} {M : MX} {R : Room} {cc : ByteArray} {nL : Nat} {own : String} {A : Nat → Prop} {cs sl : Nat} {Q : State → Prop} {pc : Nat} {L : List (Nat × Value)} {st : List Value} {H : Heap}
theorem x_andM {a : Int} (ho : Ok D M cc nL own) (hd : decode cc pc = .ok (.iand, 1)) (ha : 0 ≤ a ∧ a < 16) (k : X M R nL A cs sl Q (pc + 1) L (zV (andM a) :: st) H) : X M R nL A cs sl Q pc L (zV (a - 1) :: zV a :: st) H := fun ls locs h1 h2 h3 => by
  refine lv_iand ho.1 ho.2.1 hd ?_
  rw [(andM_e ha).1]
  exact k ls locs h1 h2 h3
end MANY
theorem eqP_s {L : List Int} {p q s : Int} (h : eqP L p q s) : eqP L q p s := fun j a b => (h j a b).symm
theorem nP_e {L : List Int} {s q : Int} (h0 : 0 ≤ q) (h : q ≤ nP L s) (h1 : (L.length : Int) < q + s) (hs : 1 ≤ s) : q = nP L s := by unfold nP at *; split at h <;> (split <;> omega)
theorem nP_lt {L : List Int} {s q : Int} (h0 : 0 ≤ q) (h1 : q + s ≤ (L.length : Int)) : q + 1 ≤ nP L s := by unfold nP; split <;> omega
theorem nP_0 {L : List Int} {s : Int} : 0 ≤ nP L s := by unfold nP; split <;> omega
theorem pc_t {P : Int → Prop} {q : Int} (h0 : 0 ≤ q) (h : P q) : pcN P (q + 1).toNat = pcN P q.toNat + 1 := by
  rw [show (q + 1).toNat = q.toNat + 1 by omega, pcN, show ((q.toNat : Nat) : Int) = q by omega, bI_t h]
theorem pc_f {P : Int → Prop} {q : Int} (h0 : 0 ≤ q) (h : ¬ P q) : pcN P (q + 1).toNat = pcN P q.toNat + 0 := by
  rw [show (q + 1).toNat = q.toNat + 1 by omega, pcN, show ((q.toNat : Nat) : Int) = q by omega, bI_f h]
theorem nb_t {L : List Int} {E : Int → Prop} {d q : Int} (hw : wf L) (h0 : 0 ≤ q) (h1 : 0 ≤ q + d) (h2 : q + d ≤ (L.length : Int) - 1) (h : E q) : nbN L E d (q + 1).toNat = orI (nbN L E d q.toNat) (sh (gA L (q + d))) := by
  have e : ((q.toNat : Nat) : Int) = q := by omega
  have hg := gA_r hw (q + d)
  have hl : lat L (q + d) = gA L (q + d) := lat_in h1 (by omega)
  rw [show (q + 1).toNat = q.toNat + 1 by omega, nbN_t (by rw [e, hl]; exact ⟨by omega, h⟩), e, hl]
theorem nb_o {L : List Int} {E : Int → Prop} {d q : Int} (h0 : 0 ≤ q) (h1 : ¬ (0 ≤ q + d ∧ q + d ≤ (L.length : Int) - 1)) : nbN L E d (q + 1).toNat = nbN L E d q.toNat := by
  have e : ((q.toNat : Nat) : Int) = q := by omega
  rw [show (q + 1).toNat = q.toNat + 1 by omega, nbN_f (by rw [e, lat_out (by omega)]; exact fun w => w.1 rfl)]
theorem nb_f {L : List Int} {E : Int → Prop} {d q : Int} (h0 : 0 ≤ q) (h : ¬ E q) : nbN L E d (q + 1).toNat = nbN L E d q.toNat := by
  have e : ((q.toNat : Nat) : Int) = q := by omega
  rw [show (q + 1).toNat = q.toNat + 1 by omega, nbN_f (by rw [e]; exact fun w => h w.2)]
theorem cif_1n {P : Prop} {n : Int} (h : 1 ≤ n) : -1 ≤ cif P (-1) n ∧ cif P (-1) n ≤ n := by
  rcases Classical.em P with p | p
  · rw [cif_t p]; omega
  · rw [cif_f p]; omega
