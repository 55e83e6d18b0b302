def chI (z : Int) : Int := (((zI z).toBitVec.toNat % 65536 : Nat) : Int)
theorem chI_r (z : Int) : 0 ≤ chI z ∧ chI z < 65536 := by unfold chI; omega
theorem z31 (x : Int32) : ∃ y : Int, 0 ≤ y ∧ y < 32 ∧ x &&& zI 31 = zI y := by
  refine ⟨((x.toBitVec.toNat % 32 : Nat) : Int), by omega, by omega, ?_⟩
  rw [← zI_nat]
  apply Int32.toBitVec_inj.mp
  apply BitVec.eq_of_toNat_eq
  show (x.toBitVec &&& (zI 31).toBitVec).toNat = (nI (x.toBitVec.toNat % 32)).toBitVec.toNat
  rw [pk_tn (by omega), BitVec.toNat_and, show (zI 31).toBitVec.toNat = 2 ^ 5 - 1 by decide +kernel, Nat.and_two_pow_sub_one_eq_mod]
section LAWR
variable {D : GG} {M : MX} {R : Room} {cc : ByteArray} {nL : Nat} {own : String} {A : Nat → Prop} {cs sl : Nat} {Q : State → Prop} {pc : Nat} {L : List (Nat × Value)} {st : List Value} {H : Heap}
theorem x_same {v : Int} {off : Int} {tgt : Nat} (ho : Ok D M cc nL own) (hd : decode cc pc = .ok (.if_icmp .eq off, 3)) (ht : (pc : Int) + off = (tgt : Int)) (k : X M R nL A cs sl Q tgt L st H) : X M R nL A cs sl Q pc L (zV v :: zV v :: st) H := fun ls locs h1 h2 h3 => lv_icmp_eq ho.1 ho.2.1 hd ht (fun _ => k ls locs h1 h2 h3) (fun h => absurd rfl h)
theorem x_and31 {z : Int} (ho : Ok D M cc nL own) (hd : decode cc pc = .ok (.iand, 1)) (k : ∀ y : Int, 0 ≤ y → y < 32 → X M R nL A cs sl Q (pc + 1) L (zV y :: st) H) : X M R nL A cs sl Q pc L (zV 31 :: zV z :: st) H := fun ls locs h1 h2 h3 => by
  obtain ⟨y, y0, y1, e⟩ := z31 (zI z)
  refine lv_iand ho.1 ho.2.1 hd ?_
  rw [e]
  exact k y y0 y1 ls locs h1 h2 h3
theorem x_i2c {z : Int} (ho : Ok D M cc nL own) (hd : decode cc pc = .ok (.i2c, 1)) (k : X M R nL A cs sl Q (pc + 1) L (zV (chI z) :: st) H) : X M R nL A cs sl Q pc L (zV z :: st) H := fun ls locs h1 h2 h3 => by
  refine lv_i2c ho.1 ho.2.1 (v := zI (chI z)) hd ?_ (k ls locs h1 h2 h3)
  rw [pk_char]
  exact zI_nat _
/-- the script's place i, as a whole number -/
def sN (xs : Nat → Int32) (i : Int) : Int := (xs i.toNat).toInt
theorem sN_r (xs : Nat → Int32) (i : Int) : -2147483648 ≤ sN xs i ∧ sN xs i ≤ 2147483647 := by
  have h1 := (xs i.toNat).le_toInt
  have h2 := (xs i.toNat).toInt_lt
  unfold sN
  omega
theorem x_sld {b N : Nat} {xs : Nat → Int32} {i : Int} (ho : Ok D M cc nL own) (hX : va_X b N xs M.2.2.2.1 M.2.2.2.1.heap) (hb : b < M.2.2.2.1.heap.size) (hA : ¬ A b) (hd : decode cc pc = .ok (.iaload, 1)) (h0 : 0 ≤ i) (h1 : i < N) (hN : N ≤ 2048) (k : X M R nL A cs sl Q (pc + 1) L (zV (sN xs i) :: st) H) : X M R nL A cs sl Q pc L (zV i :: .ref b :: st) H := fun ls locs g1 g2 g3 => by
  have e : xs (zI i).toNatClampNeg = zI (sN xs i) := by
    rw [zI_n (by omega)]
    exact (Int32.ofInt_toInt _).symm
  refine va_sld (A := A) ho.1 ho.2.1 hX hb hA ⟨by rw [g3.1]; omega, g3.2, g2⟩ (zI_in h0 h1 (by omega)) hd ?_
  rw [e]
  exact k ls locs g1 g2 g3
theorem x_slen {b N : Nat} {xs : Nat → Int32} (ho : Ok D M cc nL own) (hX : va_X b N xs M.2.2.2.1 M.2.2.2.1.heap) (hb : b < M.2.2.2.1.heap.size) (hA : ¬ A b) (hd : decode cc pc = .ok (.arraylength, 1)) (k : X M R nL A cs sl Q (pc + 1) L (zV (N : Int) :: st) H) : X M R nL A cs sl Q pc L (.ref b :: st) H := fun ls locs g1 g2 g3 => by
  refine va_slen (A := A) ho.1 ho.2.1 hX hb hA ⟨by rw [g3.1]; omega, g3.2, g2⟩ hd ?_
  rw [zI_nat]
  exact k ls locs g1 g2 g3
end LAWR
