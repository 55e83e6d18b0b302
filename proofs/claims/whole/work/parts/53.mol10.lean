theorem mm_nx {L : List Int} {z s p mo le its mo' le' : Int} (h : (p = 0 ∧ mo = -1 ∧ le = 300) ∨ (1 ≤ p ∧ isMM L z s (p - 1 + s) mo le)) (hs : 1 ≤ s ∧ s ≤ 300) (hi : its = cw L z s p) (hb : 0 ≤ its ∧ its ≤ s) (h1 : mo' = if mo < its then its else mo) (h2 : le' = if its < le then its else le) : isMM L z s (p + s) mo' le' := by
  rcases h with ⟨rfl, rfl, rfl⟩ | ⟨q, h⟩
  · rw [if_pos (by omega)] at h1
    exact isMM_one (by omega) hi h1 (by rw [h2]; split <;> omega)
  · have := isMM_next (a := its) (mx' := mo') (mn' := le') h (by omega) (by rw [hi]; congr 1; omega) h1 h2
    rw [show p - 1 + s + 1 = p + s by omega] at this
    exact this
theorem mg_a {L : List Int} {t k sa p1 p2 p3 : Int} (h : ¬ gA L k = gA L (k + t)) (c : (0 + t) * p1 ≤ p3 * t) : grS L t k (sa, p1, p2, p3) = (0, p1, p2, p3) := grS_a (fun q => h (by rw [Int.add_comm k t]; exact q.symm)) (by rw [Int.add_comm t 0]; exact c)
theorem mg_b {L : List Int} {t k sa p1 p2 p3 : Int} (h : ¬ gA L k = gA L (k + t)) (c : ¬ (0 + t) * p1 ≤ p3 * t) : grS L t k (sa, p1, p2, p3) = (0, t, k + 1 - 0, 0 + t) := by
  rw [grS_b (fun q => h (by rw [Int.add_comm k t]; exact q.symm)) (by rw [Int.add_comm t 0]; exact c), show k - 0 + 1 = k + 1 - 0 by omega, Int.add_comm t 0]
theorem mg_c {L : List Int} {t k sa p1 p2 p3 : Int} (h : gA L k = gA L (k + t)) (c : (sa + 1 + t) * p1 ≤ p3 * t) : grS L t k (sa, p1, p2, p3) = (sa + 1, p1, p2, p3) := grS_c (by rw [Int.add_comm t k]; exact h.symm) (by rw [Int.add_comm t (sa + 1)]; exact c)
theorem mg_d {L : List Int} {t k sa p1 p2 p3 : Int} (h : gA L k = gA L (k + t)) (c : ¬ (sa + 1 + t) * p1 ≤ p3 * t) : grS L t k (sa, p1, p2, p3) = (sa + 1, t, k + 1 - (sa + 1), sa + 1 + t) := by
  rw [grS_d (by rw [Int.add_comm t k]; exact h.symm) (by rw [Int.add_comm t (sa + 1)]; exact c), show k - (sa + 1) + 1 = k + 1 - (sa + 1) by omega, Int.add_comm t (sa + 1)]
theorem grI_k {L : List Int} {t k : Int} {s g : GV} (h0 : 0 ≤ k) (h : g = grI L t s k.toNat) : grI L t s (k + 1).toNat = grS L t k g := by
  rw [show (k + 1).toNat = k.toNat + 1 by omega, grI, ← h, show ((k.toNat : Nat) : Int) = k by omega]
theorem grO_k {L : List Int} {p k sa : Int} {g : Int × Int × Int} (hp : 1 ≤ p) (hk : k = (L.length : Int) - p) (h : (sa, g) = grI L p (0, grO L (p - 1).toNat) k.toNat) : g = grO L (p + 1 - 1).toNat := by
  have e : (((p - 1).toNat : Nat) : Int) + 1 = p := by omega
  rw [show (p + 1 - 1).toNat = (p - 1).toNat + 1 by omega, grO, e, ← hk, ← h]
theorem mir_1 {L : List Int} {a : Int} : mir L a 1 := fun j h0 h1 => by omega
