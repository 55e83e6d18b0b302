theorem at_R {D : GG} {H : Heap} {a k n : Nat} {g h : Int → Option Nat} (x : At D H a (oR D k n g)) (e : ∀ j : Int, 0 ≤ j → j < n → g j = h j) : At D H a (oR D k n h) := by
  have x' : H[a]? = some (vp_cell (D.2 k) (n, .inr (.inr (.inr (.inr (fun j : Nat => g (j : Int))))))) := x
  show H[a]? = some (vp_cell (D.2 k) (n, .inr (.inr (.inr (.inr (fun j : Nat => h (j : Int)))))))
  rw [x', vp_cell_q, vp_cell_q]
  unfold arrV
  congr 2
  congr 1
  funext j
  have hj := j.isLt
  show va_rf (g ((j.val : Nat) : Int)) = va_rf (h ((j.val : Nat) : Int))
  rw [e _ (by omega) (by omega)]
theorem in4 {P : Int → Prop} (h0 : P 0) (h1 : P 1) (h2 : P 2) (h3 : P 3) : ∀ i : Int, 0 ≤ i → i < 4 → P i := fun i a b => by
  rcases (show i = 0 ∨ i = 1 ∨ i = 2 ∨ i = 3 by omega) with rfl | rfl | rfl | rfl
  · exact h0
  · exact h1
  · exact h2
  · exact h3
theorem no0 {P : Int → Prop} : ∀ j : Int, 0 ≤ j → j < (([] : List Int).length : Int) → P j := fun j a b => by
  have : j < 0 := b
  omega
/-- where a new rule's images lie -/
def rP (r : Nat) : Int → Nat := fun i => r + 4 + 2 * i.toNat
def one1 : Int → List Int := fun i => [i]
theorem isR_new {D : GG} {H : Heap} {r : Nat} {f : Int → Option Nat} (h1 : At D H r (oO 7 [.ref (r + 1), .ref (r + 2)])) (h2 : At D H (r + 1) (oR D 3 4 f)) (hf : ∀ i : Int, 0 ≤ i → i < 4 → f i = some (rP r i)) (h3 : isL D H (r + 2) 0 []) (i0 : isL D H (r + 4) 8 [0]) (i1 : isL D H (r + 6) 8 [1]) (i2 : isL D H (r + 8) 8 [2]) (i3 : isL D H (r + 10) 8 [3]) : isR D H r (rP r) one1 :=
  ⟨h1, at_R h2 hf, h3, in4 i0 i1 i2 i3, fun i a b => by unfold rP; omega, fun i j a b c d e => by unfold rP; omega⟩
def sv0 : SV := (one1, [0], [])
def hQ (h : Nat) : Int → Nat := fun i => h + 2 + 17 * i.toNat
theorem isHL_new {D : GG} {H : Heap} {h : Nat} {f : Int → Option Nat} (h1 : At D H h (oO 1 [.ref (h + 1), zV 0])) (h2 : At D H (h + 1) (oR D 4 4 f)) (hf : ∀ i : Int, 0 ≤ i → i < 4 → f i = some (hQ h i)) (i0 : isS D H (h + 2) sv0) (i1 : isS D H (h + 19) sv0) (i2 : isS D H (h + 36) sv0) (i3 : isS D H (h + 53) sv0) : isHL D H h [] :=
  ⟨Nat.zero_le _, hQ h, fun _ => sv0, ⟨h1, at_R h2 hf, in4 i0 i1 i2 i3, fun i a b => by unfold hQ; omega, fun i j a b c d e => by unfold hQ; omega⟩, fun i a b => by have q : i < 0 := b; omega⟩
theorem isRT_born {D : GG} {H : Heap} {o : Nat} {P S Q T : Int → Int} (h1 : At D H o (oO 6 [.ref (o + 1), zV 0, .ref (o + 2), .ref (o + 3), .ref (o + 4), zV 0])) (h2 : At D H (o + 1) (oI D 300 P)) (h3 : At D H (o + 2) (oI D 300 S)) (h4 : At D H (o + 3) (oI D 300 Q)) (h5 : At D H (o + 4) (oI D 300 T)) : isRT D H o [] [] [] :=
  ⟨h1, P, S, Q, T, h2, h3, h4, h5, no0, no0, no0, no0, fun _ h => (by cases h), fun _ h => (by cases h), fun _ h => (by cases h), Nat.zero_le _, Nat.zero_le _, Nat.zero_le _⟩
def wv0 : WV := (sv0, sv0, 0, [], [])
theorem gd0 : gd sv0 := ⟨fun i a b => Int.le_refl 1, Int.le_refl 1⟩
theorem gdW0 : gdW wv0 := ⟨gd0, gd0, fun _ h => (by cases h), Or.inl rfl⟩
