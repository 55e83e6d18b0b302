section JROWS
variable {D : GG} {M : MX} {R : Room} {cc : ByteArray} {nL : Nat} {own : String} {A : Nat → Prop} {cs sl : Nat} {Q : State → Prop} {pc : Nat} {L : List (Nat × Value)} {st : List Value} {H : Heap}
theorem xr_iand (ho : Ok D M cc nL own) {x y : Int32} (hd : decode cc pc = .ok (.iand, 1)) (k : X M R nL A cs sl Q (pc + 1) L (.int (x &&& y) :: st) H) : X M R nL A cs sl Q pc L (.int y :: .int x :: st) H := fun ls locs h1 h2 h3 => lv_iand ho.1 ho.2.1 hd (k ls locs h1 h2 h3)
theorem xr_iadd (ho : Ok D M cc nL own) {x y : Int32} (hd : decode cc pc = .ok (.iadd, 1)) (k : X M R nL A cs sl Q (pc + 1) L (.int (x + y) :: st) H) : X M R nL A cs sl Q pc L (.int y :: .int x :: st) H := fun ls locs h1 h2 h3 => lv_iadd ho.1 ho.2.1 hd (k ls locs h1 h2 h3)
theorem xr_isub (ho : Ok D M cc nL own) {x y : Int32} (hd : decode cc pc = .ok (.isub, 1)) (k : X M R nL A cs sl Q (pc + 1) L (.int (x - y) :: st) H) : X M R nL A cs sl Q pc L (.int y :: .int x :: st) H := fun ls locs h1 h2 h3 => lv_isub ho.1 ho.2.1 hd (k ls locs h1 h2 h3)
theorem xr_iushr (ho : Ok D M cc nL own) {x y : Int32} (hd : decode cc pc = .ok (.iushr, 1)) (k : X M R nL A cs sl Q (pc + 1) L (.int ((x.toUInt32 >>> (y.toUInt32 &&& Int32.toUInt32 31)).toInt32) :: st) H) : X M R nL A cs sl Q pc L (.int y :: .int x :: st) H := fun ls locs h1 h2 h3 => lv_iushr ho.1 ho.2.1 hd rfl (k ls locs h1 h2 h3)
theorem xr_ldcw (ho : Ok D M cc nL own) {idx : Nat} {v : Int32} (hd : decode cc pc = .ok (.ldc_w idx, 3)) (hw : Cond.constant own idx v ∈ gtbl) (k : X M R nL A cs sl Q (pc + 3) L (.int v :: st) H) : X M R nL A cs sl Q pc L st H := fun ls locs h1 h2 h3 => lv_ldcw ho.1 ho.2.1 ho.2.2.2.1 (ho.2.2.2.2.1 _ hw) hd (k ls locs h1 h2 h3)
theorem x_ldcw (ho : Ok D M cc nL own) {idx : Nat} {v : Int32} {z : Int} (hd : decode cc pc = .ok (.ldc_w idx, 3)) (hw : Cond.constant own idx v ∈ gtbl) (hv : v = zI z) (k : X M R nL A cs sl Q (pc + 3) L (zV z :: st) H) : X M R nL A cs sl Q pc L st H := xr_ldcw ho hd hw (by subst hv; exact k)
theorem x_lconst (ho : Ok D M cc nL own) {n : Fin 2} (hd : decode cc pc = .ok (.lconst n, 1)) (k : X M R nL A cs sl Q (pc + 1) L (.long (lN n.val) :: st) H) : X M R nL A cs sl Q pc L st H := fun ls locs h1 h2 h3 => lv_lconst ho.1 ho.2.1 hd rfl (k ls locs h1 h2 h3)
theorem x_lshl (ho : Ok D M cc nL own) {x : Int64} {a : Int} {v : Int64} (hd : decode cc pc = .ok (.lshl, 1)) (hv : x <<< ((zI a).toInt64 &&& 63) = v) (k : X M R nL A cs sl Q (pc + 1) L (.long v :: st) H) : X M R nL A cs sl Q pc L (zV a :: .long x :: st) H := fun ls locs h1 h2 h3 => lv_lshl ho.1 ho.2.1 hd hv (k ls locs h1 h2 h3)
theorem x_lsub (ho : Ok D M cc nL own) {x y v : Int64} (hd : decode cc pc = .ok (.lsub, 1)) (hv : x - y = v) (k : X M R nL A cs sl Q (pc + 1) L (.long v :: st) H) : X M R nL A cs sl Q pc L (.long y :: .long x :: st) H := fun ls locs h1 h2 h3 => lv_lsub ho.1 ho.2.1 hd (by rw [hv]; exact k ls locs h1 h2 h3)
theorem x_lor (ho : Ok D M cc nL own) {x y v : Int64} (hd : decode cc pc = .ok (.lor, 1)) (hv : x ||| y = v) (k : X M R nL A cs sl Q (pc + 1) L (.long v :: st) H) : X M R nL A cs sl Q pc L (.long y :: .long x :: st) H := fun ls locs h1 h2 h3 => lv_lor ho.1 ho.2.1 hd (by rw [hv]; exact k ls locs h1 h2 h3)
theorem x_land (ho : Ok D M cc nL own) {x y v : Int64} (hd : decode cc pc = .ok (.land, 1)) (hv : x &&& y = v) (k : X M R nL A cs sl Q (pc + 1) L (.long v :: st) H) : X M R nL A cs sl Q pc L (.long y :: .long x :: st) H := fun ls locs h1 h2 h3 => lv_land ho.1 ho.2.1 hd (by rw [hv]; exact k ls locs h1 h2 h3)
theorem x_i2l (ho : Ok D M cc nL own) {a : Int} {v : Int64} (hd : decode cc pc = .ok (.i2l, 1)) (hv : (zI a).toInt64 = v) (k : X M R nL A cs sl Q (pc + 1) L (.long v :: st) H) : X M R nL A cs sl Q pc L (zV a :: st) H := fun ls locs h1 h2 h3 => lv_i2l ho.1 ho.2.1 hd hv (k ls locs h1 h2 h3)
theorem lcmp_0 (x y : Int64) : lg_cmp x y = 0 ↔ x = y := by
  unfold lg_cmp
  split
  · rename_i h
    constructor
    · intro q; exact absurd q (by decide)
    · intro q; subst q; exact absurd h (by rw [gt_iff_lt, Int64.lt_iff_toInt_lt]; omega)
  · split
    · rename_i h; exact ⟨fun _ => h, fun _ => rfl⟩
    · rename_i h
      constructor
      · intro q; exact absurd q (by decide)
      · intro q; exact absurd q h
/-- two longs held against each other: lcmp; ifne -/
theorem x_lcmpne (ho : Ok D M cc nL own) {x y : Int64} {off : Int} {tgt : Nat} (hd : decode cc pc = .ok (.lcmp, 1)) (hd2 : decode cc (pc + 1) = .ok (.ifCond .ne off, 3)) (ht : ((pc + 1 : Nat) : Int) + off = (tgt : Int)) (kt : ¬ x = y → X M R nL A cs sl Q tgt L st H) (kf : x = y → X M R nL A cs sl Q (pc + 1 + 3) L st H) : X M R nL A cs sl Q pc L (.long y :: .long x :: st) H := fun ls locs h1 h2 h3 =>
  W.lcmp ho.1 ho.2.1 hd (lv_if_ne ho.1 ho.2.1 hd2 ht (fun h => kt (fun q => h ((lcmp_0 x y).mpr q)) ls locs h1 h2 h3) (fun h => kf ((lcmp_0 x y).mp h) ls locs h1 h2 h3))
theorem x_tabOut (ho : Ok D M cc nL own) {dflt lo hi : Int} {offs : Array Int} {len : Nat} {z : Int} {tgt : Nat} (hd : decode cc pc = .ok (.tableswitch dflt lo hi offs, len)) (hz : -2147483648 ≤ z ∧ z ≤ 2147483647) (h : z < lo ∨ hi < z) (ht : (pc : Int) + dflt = (tgt : Int)) (k : X M R nL A cs sl Q tgt L st H) : X M R nL A cs sl Q pc L (zV z :: st) H := fun ls locs h1 h2 h3 => lv_tableOut ho.1 ho.2.1 hd (by rw [zI_toInt hz]; exact h) ht (k ls locs h1 h2 h3)
theorem x_tabIn (ho : Ok D M cc nL own) {dflt lo hi off : Int} {offs : Array Int} {len : Nat} {z : Int} {tgt : Nat} (c : Int) (hd : decode cc pc = .ok (.tableswitch dflt lo hi offs, len)) (hc : z = c) (hz : -2147483648 ≤ c ∧ c ≤ 2147483647) (h : lo ≤ c ∧ c ≤ hi) (hof : offs[(c - lo).toNat]? = some off) (ht : (pc : Int) + off = (tgt : Int)) (k : X M R nL A cs sl Q tgt L st H) : X M R nL A cs sl Q pc L (zV z :: st) H := fun ls locs h1 h2 h3 => by
  subst hc
  exact lv_tableIn ho.1 ho.2.1 hd (by rw [zI_toInt hz]; omega) (by rw [zI_toInt hz]; omega) (by rw [zI_toInt hz]; exact hof) ht (k ls locs h1 h2 h3)
theorem x_look (ho : Ok D M cc nL own) {dflt off : Int} {ps : Array (Int × Int)} {len : Nat} {z : Int} {tgt : Nat} (hd : decode cc pc = .ok (.lookupswitch dflt ps, len)) (hz : -2147483648 ≤ z ∧ z ≤ 2147483647) (hp : (ps.toList.zip (ps.toList.drop 1)).all (fun (a, next) => a.1 < next.1) = true) (hof : Op.lookupswitch.offset ps.toList dflt z = off) (ht : (pc : Int) + off = (tgt : Int)) (k : X M R nL A cs sl Q tgt L st H) : X M R nL A cs sl Q pc L (zV z :: st) H := fun ls locs h1 h2 h3 => lv_lookup ho.1 ho.2.1 hd hp (by rw [zI_toInt hz]; exact hof) ht (k ls locs h1 h2 h3)
end JROWS
-- the count of a set
def pop (x : Int) : Int := x % 2 + x / 2 % 2 + x / 4 % 2 + x / 8 % 2
def bcF (x : Int32) : Int32 :=
  let u (a : Int32) (k : Int32) : Int32 := (a.toUInt32 >>> (k.toUInt32 &&& Int32.toUInt32 31)).toInt32
  let a := x - (u x (zI 1) &&& 1431655765)
  let b := (a &&& 858993459) + (u a (zI 2) &&& 858993459)
  let c := (b + u b (zI 4)) &&& 252645135
  let e := c + u c (zI 8)
  let f := e + u e (zI 16)
  f &&& zI 63
theorem bcF_16 : ∀ k, k < 16 → bcF (zI ((k : Nat) : Int)) = zI (pop (k : Int)) := by decide +kernel
abbrev b_IN_bitCount : ByteArray := prog_14_method_49_code
def y_IN_bitCount : MethodName := ⟨"java/lang/Integer", "bitCount", "(I)I"⟩
theorem yv_IN_bitCount : Yv y_IN_bitCount b_IN_bitCount 1 (Option.some FieldType.int) 1 := ⟨g_641, g_67, by decide, by decide +kernel⟩
def q_IN_bitCount (D : GG) (x : Int) : Option Value → Heap → Prop := fun v0 H => v0 = some (zV (pop x))
set_option maxHeartbeats 4000000 in
set_option maxRecDepth 100000 in
theorem c_IN_bitCount (l0 : Launch) (D : GG) (x : Int) (hx : 0 ≤ x ∧ x < 16) : Ct l0 D y_IN_bitCount b_IN_bitCount 1 (Option.some FieldType.int) ({ frames := 0, cells := 0, slots := 0, locals := 0 } : Room) [zV x] (fun H => True) nA 0 0 (q_IN_bitCount D x) := by
  refine Ct.of (L := [(0, zV x)]) (by decide) (Nat.le_of_ble_eq_true rfl) rfl (fun M H ho hr hnm hH hpre => ?_)
  refine x_iload_n ho 0 (by decide +kernel : decode b_IN_bitCount 0 = .ok (.iload_n 0, 1)) rfl ?_
  refine x_iload_n ho 0 (by decide +kernel : decode b_IN_bitCount 1 = .ok (.iload_n 0, 1)) rfl ?_
  refine x_iconst ho (by decide +kernel : decode b_IN_bitCount 2 = .ok (.iconst 1, 1)) ?_
  refine xr_iushr ho (by decide +kernel : decode b_IN_bitCount 3 = .ok (.iushr, 1)) ?_
  refine xr_ldcw ho (by decide +kernel : decode b_IN_bitCount 4 = .ok (.ldc_w 265, 3)) g_642 ?_
  refine xr_iand ho (by decide +kernel : decode b_IN_bitCount 7 = .ok (.iand, 1)) ?_
  refine xr_isub ho (by decide +kernel : decode b_IN_bitCount 8 = .ok (.isub, 1)) ?_
  refine x_istore_n ho (by decide +kernel : decode b_IN_bitCount 9 = .ok (.istore_n 0, 1)) (by decide) rfl ?_
  refine x_iload_n ho 0 (by decide +kernel : decode b_IN_bitCount 10 = .ok (.iload_n 0, 1)) rfl ?_
  refine xr_ldcw ho (by decide +kernel : decode b_IN_bitCount 11 = .ok (.ldc_w 266, 3)) g_643 ?_
  refine xr_iand ho (by decide +kernel : decode b_IN_bitCount 14 = .ok (.iand, 1)) ?_
  refine x_iload_n ho 0 (by decide +kernel : decode b_IN_bitCount 15 = .ok (.iload_n 0, 1)) rfl ?_
  refine x_iconst ho (by decide +kernel : decode b_IN_bitCount 16 = .ok (.iconst 2, 1)) ?_
  refine xr_iushr ho (by decide +kernel : decode b_IN_bitCount 17 = .ok (.iushr, 1)) ?_
  refine xr_ldcw ho (by decide +kernel : decode b_IN_bitCount 18 = .ok (.ldc_w 266, 3)) g_643 ?_
  refine xr_iand ho (by decide +kernel : decode b_IN_bitCount 21 = .ok (.iand, 1)) ?_
  refine xr_iadd ho (by decide +kernel : decode b_IN_bitCount 22 = .ok (.iadd, 1)) ?_
  refine x_istore_n ho (by decide +kernel : decode b_IN_bitCount 23 = .ok (.istore_n 0, 1)) (by decide) rfl ?_
  refine x_iload_n ho 0 (by decide +kernel : decode b_IN_bitCount 24 = .ok (.iload_n 0, 1)) rfl ?_
  refine x_iload_n ho 0 (by decide +kernel : decode b_IN_bitCount 25 = .ok (.iload_n 0, 1)) rfl ?_
  refine x_iconst ho (by decide +kernel : decode b_IN_bitCount 26 = .ok (.iconst 4, 1)) ?_
  refine xr_iushr ho (by decide +kernel : decode b_IN_bitCount 27 = .ok (.iushr, 1)) ?_
  refine xr_iadd ho (by decide +kernel : decode b_IN_bitCount 28 = .ok (.iadd, 1)) ?_
  refine xr_ldcw ho (by decide +kernel : decode b_IN_bitCount 29 = .ok (.ldc_w 267, 3)) g_644 ?_
  refine xr_iand ho (by decide +kernel : decode b_IN_bitCount 32 = .ok (.iand, 1)) ?_
  refine x_istore_n ho (by decide +kernel : decode b_IN_bitCount 33 = .ok (.istore_n 0, 1)) (by decide) rfl ?_
  refine x_iload_n ho 0 (by decide +kernel : decode b_IN_bitCount 34 = .ok (.iload_n 0, 1)) rfl ?_
  refine x_iload_n ho 0 (by decide +kernel : decode b_IN_bitCount 35 = .ok (.iload_n 0, 1)) rfl ?_
  refine x_bipush (z := 8) ho (by decide +kernel : decode b_IN_bitCount 36 = .ok (.bipush 8, 2)) (by decide) ?_
  refine xr_iushr ho (by decide +kernel : decode b_IN_bitCount 38 = .ok (.iushr, 1)) ?_
  refine xr_iadd ho (by decide +kernel : decode b_IN_bitCount 39 = .ok (.iadd, 1)) ?_
  refine x_istore_n ho (by decide +kernel : decode b_IN_bitCount 40 = .ok (.istore_n 0, 1)) (by decide) rfl ?_
  refine x_iload_n ho 0 (by decide +kernel : decode b_IN_bitCount 41 = .ok (.iload_n 0, 1)) rfl ?_
  refine x_iload_n ho 0 (by decide +kernel : decode b_IN_bitCount 42 = .ok (.iload_n 0, 1)) rfl ?_
  refine x_bipush (z := 16) ho (by decide +kernel : decode b_IN_bitCount 43 = .ok (.bipush 16, 2)) (by decide) ?_
  refine xr_iushr ho (by decide +kernel : decode b_IN_bitCount 45 = .ok (.iushr, 1)) ?_
  refine xr_iadd ho (by decide +kernel : decode b_IN_bitCount 46 = .ok (.iadd, 1)) ?_
  refine x_istore_n ho (by decide +kernel : decode b_IN_bitCount 47 = .ok (.istore_n 0, 1)) (by decide) rfl ?_
  refine x_iload_n ho 0 (by decide +kernel : decode b_IN_bitCount 48 = .ok (.iload_n 0, 1)) rfl ?_
  refine x_bipush (z := 63) ho (by decide +kernel : decode b_IN_bitCount 49 = .ok (.bipush 63, 2)) (by decide) ?_
  refine xr_iand ho (by decide +kernel : decode b_IN_bitCount 51 = .ok (.iand, 1)) ?_
  have e : bcF (zI x) = zI (pop x) := by
    have h := bcF_16 x.toNat (by omega)
    rw [show ((x.toNat : Nat) : Int) = x by omega] at h
    exact h
  show X _ _ _ _ _ _ _ _ _ [.int (bcF (zI x))] _
  rw [e]
  refine x_iret ho hr (by decide +kernel : decode b_IN_bitCount 52 = .ok (.ireturn, 1)) rfl
theorem wb_tb (n : Nat) : (lN n).toBitVec = BitVec.ofNat 64 n := rfl
theorem wb_inj {a b : Int64} (h : a.toBitVec = b.toBitVec) : a = b := Int64.toBitVec_inj.mp h
theorem wb_tn {n : Nat} (h : n < 2 ^ 64) : (lN n).toBitVec.toNat = n := by rw [wb_tb, BitVec.toNat_ofNat, Nat.mod_eq_of_lt h]
theorem wb_of (x : Int64) : ∃ n, n < 2 ^ 64 ∧ x = lN n := ⟨x.toBitVec.toNat, x.toBitVec.isLt, wb_inj (by rw [wb_tb]; simp)⟩
theorem wb_of32 (x : Int32) : ∃ n, n < 2 ^ 32 ∧ x = nI n := ⟨x.toBitVec.toNat, x.toBitVec.isLt, Int32.toBitVec_inj.mp (by show _ = BitVec.ofNat 32 _; simp)⟩
theorem wb_c : ∀ k, k < 64 → ((nI k).toInt64 &&& 63) = lN k := by decide +kernel
theorem wb_cu : ∀ k, k < 64 → ((nI k).toInt64.toUInt64 &&& Int64.toUInt64 63) = UInt64.ofNat k := by decide +kernel
theorem wb_sm : ∀ k, k < 64 → (BitVec.ofNat 64 k).smod 64 = BitVec.ofNat 64 k := by decide +kernel
theorem wb_pw {a b : Nat} (h : a ≤ b) : 2 ^ b = 2 ^ a * 2 ^ (b - a) := by rw [← Nat.pow_add]; congr 1; omega
theorem wb_lt2 {a b : Nat} (h : a < b) : 2 ^ a < 2 ^ b := Nat.pow_lt_pow_right (by decide) h
theorem wb_mod (n : Nat) : lN n = lN (n % 2 ^ 64) := wb_inj (by rw [wb_tb, wb_tb]; apply BitVec.eq_of_toNat_eq; rw [BitVec.toNat_ofNat, BitVec.toNat_ofNat, Nat.mod_mod])
theorem wb_shl (n : Nat) {k : Nat} (hk : k < 64) : lN n <<< ((nI k).toInt64 &&& 63) = lN (n * 2 ^ k) := by
  rw [wb_c k hk]
  apply wb_inj
  rw [Int64.toBitVec_shiftLeft, wb_tb, wb_tb, wb_tb, wb_sm k hk]
  apply BitVec.eq_of_toNat_eq
  rw [BitVec.shiftLeft_eq', BitVec.toNat_shiftLeft, BitVec.toNat_ofNat, BitVec.toNat_ofNat, BitVec.toNat_ofNat, Nat.mod_eq_of_lt (show k < 2 ^ 64 by omega), Nat.shiftLeft_eq, Nat.mul_mod, Nat.mod_mod, ← Nat.mul_mod]
theorem wb_and {a b : Nat} (ha : a < 2 ^ 64) (hb : b < 2 ^ 64) : lN a &&& lN b = lN (a &&& b) := by
  apply wb_inj
  rw [Int64.toBitVec_and, wb_tb, wb_tb, wb_tb]
  apply BitVec.eq_of_toNat_eq
  rw [BitVec.toNat_and, BitVec.toNat_ofNat, BitVec.toNat_ofNat, BitVec.toNat_ofNat, Nat.mod_eq_of_lt ha, Nat.mod_eq_of_lt hb, Nat.mod_eq_of_lt (Nat.and_lt_two_pow _ hb)]
theorem wb_or {a b : Nat} (ha : a < 2 ^ 64) (hb : b < 2 ^ 64) : lN a ||| lN b = lN (a ||| b) := by
  apply wb_inj
  rw [Int64.toBitVec_or, wb_tb, wb_tb, wb_tb]
  apply BitVec.eq_of_toNat_eq
  rw [BitVec.toNat_or, BitVec.toNat_ofNat, BitVec.toNat_ofNat, BitVec.toNat_ofNat, Nat.mod_eq_of_lt ha, Nat.mod_eq_of_lt hb, Nat.mod_eq_of_lt (Nat.or_lt_two_pow ha hb)]
theorem wb_mask {n k : Nat} (hn : n < 2 ^ 64) (hk : k < 64) : lN n &&& lN (2 ^ k - 1) = lN (n % 2 ^ k) := by
  rw [wb_and hn (by have := wb_lt2 hk; omega), Nat.and_two_pow_sub_one_eq_mod]
