/-- a row with a stretch copied in -/
def zC {α : Type} (f g : Int → α) (sp dp n : Int) : Int → α := fun j => if dp ≤ j ∧ j < dp + n then f (sp + (j - dp)) else g j
theorem zC_in {α : Type} (f g : Int → α) {sp dp n j : Int} (h : dp ≤ j) (h2 : j < dp + n) : zC f g sp dp n j = f (sp + (j - dp)) := if_pos ⟨h, h2⟩
theorem zC_out {α : Type} (f g : Int → α) {sp dp n j : Int} (h : j < dp ∨ dp + n ≤ j) : zC f g sp dp n j = g j := if_neg (by omega)
section NATR
variable {D : GG} {M : MX} {R : Room} {cc : ByteArray} {nL : Nat} {own : String} {A : Nat → Prop} {cs sl : Nat} {Q : State → Prop} {pc : Nat} {L : List (Nat × Value)} {st : List Value} {H : Heap}
theorem x_mmax {a b : Int} {idx : Nat} (ho : Ok D M cc nL own) (hd : decode cc pc = .ok (.invokestatic idx, 3)) (hlk : Cond.methodLink own idx ⟨"java/lang/Math", "max", "(II)I"⟩ ∈ gtbl) (ha : -2147483648 ≤ a ∧ a ≤ 2147483647) (hb : -2147483648 ≤ b ∧ b ≤ 2147483647) (hfr : 1 ≤ R.frames) (hlo : (st.map fun v => v.category).sum + 13 ≤ R.locals) (hc : cs ≤ R.cells) (hs : sl ≤ R.slots) (kk : X M R nL A cs sl Q (pc + 3) L (zV (if a < b then b else a) :: st) H) : X M R nL A cs sl Q pc L (zV b :: zV a :: st) H := by
  intro ls locs h1 h2 h3
  refine va_mmax ho.1 ho.2.1 (by rw [ho.2.2.1, h1.1]) ho.2.2.2.1 (ho.2.2.2.2.1 _ hlk) (ho.2.2.2.2.1 _ g_95) (ho.2.2.2.2.1 _ g_57) (ho.2.2.2.2.1 _ g_96) hfr hlo hc hs hd ?_
  rw [show (if zI a < zI b then zI b else zI a) = zI (if a < b then b else a) by
    by_cases h : a < b
    · rw [if_pos h, if_pos ((zI_lt ha hb).mpr h)]
    · rw [if_neg h, if_neg (fun q => h ((zI_lt ha hb).mp q))]]
  exact kk ls locs h1 h2 h3
theorem x_mmin {a b : Int} {idx : Nat} (ho : Ok D M cc nL own) (hd : decode cc pc = .ok (.invokestatic idx, 3)) (hlk : Cond.methodLink own idx ⟨"java/lang/Math", "min", "(II)I"⟩ ∈ gtbl) (ha : -2147483648 ≤ a ∧ a ≤ 2147483647) (hb : -2147483648 ≤ b ∧ b ≤ 2147483647) (hfr : 1 ≤ R.frames) (hlo : (st.map fun v => v.category).sum + 13 ≤ R.locals) (hc : cs ≤ R.cells) (hs : sl ≤ R.slots) (kk : X M R nL A cs sl Q (pc + 3) L (zV (if b < a then b else a) :: st) H) : X M R nL A cs sl Q pc L (zV b :: zV a :: st) H := by
  intro ls locs h1 h2 h3
  refine va_mmin ho.1 ho.2.1 (by rw [ho.2.2.1, h1.1]) ho.2.2.2.1 (ho.2.2.2.2.1 _ hlk) (ho.2.2.2.2.1 _ g_302) (ho.2.2.2.2.1 _ g_57) (ho.2.2.2.2.1 _ g_303) hfr hlo hc hs hd ?_
  rw [show (if zI b < zI a then zI b else zI a) = zI (if b < a then b else a) by
    by_cases h : b < a
    · rw [if_pos h, if_pos ((zI_lt hb ha).mpr h)]
    · rw [if_neg h, if_neg (fun q => h ((zI_lt hb ha).mp q))]]
  exact kk ls locs h1 h2 h3
theorem x_copy {a0 a n0 n1 : Nat} {f g : Int → Int} {sp dp n : Int} {idx : Nat} (ho : Ok D M cc nL own) (hd : decode cc pc = .ok (.invokestatic idx, 3)) (hlk : Cond.methodLink own idx ⟨"java/lang/System", "arraycopy", "(Ljava/lang/Object;ILjava/lang/Object;II)V"⟩ ∈ gtbl) (h0 : At D H a0 (oI D n0 f)) (h1 : At D H a (oI D n1 g)) (b1 : 0 ≤ sp) (b2 : 0 ≤ dp) (b3 : 0 ≤ n) (b4 : sp + n ≤ n0) (b5 : dp + n ≤ n1) (b6 : n0 ≤ 100000) (b7 : n1 ≤ 100000) (hfr : 1 ≤ R.frames) (hlo : (st.map fun v => v.category).sum + (nativeFrameWords "java/lang/System" "arraycopy" 5 + 11) ≤ R.locals) (hA : A a)
    (kk : ∀ H1 : Heap, At D H1 a (oI D n1 (zC f g sp dp n)) → H1.size = H.size → (∀ q : Nat, q ≠ a → H1[q]? = H[q]?) → X M R nL A cs sl Q (pc + 3) L st H1) : X M R nL A cs sl Q pc L (zV n :: zV dp :: .ref a :: zV sp :: .ref a0 :: st) H := by
  intro ls locs g1 g2 g3 T hT XX
  have hK := ho.2.2.2.2.2.1.1
  have e_sp : (zI sp).toNatClampNeg = sp.toNat := zI_n (by omega)
  have e_dp : (zI dp).toNatClampNeg = dp.toNat := zI_n (by omega)
  have e_n : (zI n).toNatClampNeg = n.toNat := zI_n (by omega)
  have hc0 : H[a0]? = some (vp_cell (D.2 0) (n0, .inl (fun j : Nat => zI (f (j : Int))))) := h0
  have hc1 : H[a]? = some (vp_cell (D.2 0) (n1, .inl (fun j : Nat => zI (g (j : Int))))) := h1
  obtain ⟨-, k0, hk0, cm0, hkk0⟩ := (hK.2 0 _ rfl).1 n0 (fun j => .int (zI (f (j : Int))))
  obtain ⟨-, k1, hk1, cm1, hkk1⟩ := (hK.2 0 _ rfl).1 n1 (fun j => .int (zI (g (j : Int))))
  have nlt : ∀ z : Int, 0 ≤ z → z ≤ 2147483647 → ¬ zI z < 0 := fun z q1 q2 => by rw [zI_0, zI_lt (by omega) (by omega)]; omega
  obtain ⟨vm', X', step⟩ := XX.arraycopy ho.1 ho.2.2.2.1 (ho.2.2.2.2.1 _ hlk) (ho.2.2.2.2.1 _ g_306) (ho.2.2.2.2.1 _ g_305) (ho.2.2.2.2.1 _ g_66) (src := a0) (dst := a) (cs := vp_cell (D.2 0) (n0, .inl (fun j : Nat => zI (f (j : Int))))) (cd := vp_cell (D.2 0) (n1, .inl (fun j : Nat => zI (g (j : Int))))) (srcPos := zI sp) (destPos := zI dp) (n := zI n) (by rw [hT]; exact hc0) (by rw [hT]; exact hc1)
    (fun _ h => by cases h) (fun _ h => by cases h) (fun h => by cases h) (fun h => by cases h) hk0 hk1 hkk0 hkk1 (by simp [refKind]) (nlt sp b1 (by omega)) (nlt dp b2 (by omega)) (nlt n b3 (by omega))
    (by rw [zI_toInt (by omega), zI_toInt (by omega)]; show ¬ _ > ((arrV (D.2 0) n0 (fun j => .int (zI (f (j : Int))))).slots.size : Int); rw [arrV_size]; omega)
    (by rw [zI_toInt (by omega), zI_toInt (by omega)]; show ¬ _ > ((arrV (D.2 0) n1 (fun j => .int (zI (g (j : Int))))).slots.size : Int); rw [arrV_size]; omega)
    (fun vm₁ _ i hi => by
      rw [e_n] at hi
      have e : (vp_cell (D.2 0) (n0, .inl (fun j : Nat => zI (f (j : Int))))).slots.getD ((zI sp).toNatClampNeg + i) .null = .int (zI (f (((zI sp).toNatClampNeg + i : Nat) : Int))) := by
        show (arrV (D.2 0) n0 (fun j => .int (zI (f (j : Int))))).slots.getD _ _ = _
        rw [Array.getD_eq_getD_getElem?, arrV_read _ _ (by rw [e_sp]; omega)]
        rfl
      refine ⟨?_, ?_⟩
      · rw [e]; rfl
      · rw [e]; exact trivial)
    (g := F0 M.2.2.2.2.1 pc ls (zV n :: zV dp :: .ref a :: zV sp :: .ref a0 :: st)) rfl (by rw [ho.2.2.1, g1.1]) (rest := st) rfl (by rw [ho.2.1]; exact hd) hfr (by show 2 * 0 + _ + _ ≤ _; omega)
  have e1 : copied (vp_cell (D.2 0) (n0, .inl (fun j : Nat => zI (f (j : Int))))) (vp_cell (D.2 0) (n1, .inl (fun j : Nat => zI (g (j : Int))))) (zI sp) (zI dp) (zI n) = vp_cell (D.2 0) (n1, .inl (va_cpy (fun j : Nat => zI (f (j : Int))) (fun j : Nat => zI (g (j : Int))) (zI sp).toNatClampNeg (zI dp).toNatClampNeg (zI n).toNatClampNeg)) := va_copied (fun z => .int z) (D.2 0) (D.2 0) (fun j : Nat => zI (f (j : Int))) (fun j : Nat => zI (g (j : Int))) (by rw [e_sp, e_n]; omega)
  have e2 : va_cpy (fun j : Nat => zI (f (j : Int))) (fun j : Nat => zI (g (j : Int))) (zI sp).toNatClampNeg (zI dp).toNatClampNeg (zI n).toNatClampNeg = fun j : Nat => zI (zC f g sp dp n (j : Int)) := by
    funext j
    rw [e_sp, e_dp, e_n]
    unfold va_cpy zC
    by_cases h : dp.toNat ≤ j ∧ j < dp.toNat + n.toNat
    · rw [if_pos h, if_pos (by omega)]
      show zI (f _) = zI (f _)
      congr 2
      omega
    · rw [if_neg h, if_neg (by omega)]
  rw [e1, e2] at X' step
  have hl : a < H.size := (Array.getElem?_eq_some_iff.mp hc1).1
  have hheap : ((T.setVm vm').setCell a (vp_cell (D.2 0) (n1, .inl (fun j : Nat => zI (zC f g sp dp n (j : Int)))))).heap = H.setIfInBounds a (vp_cell (D.2 0) (n1, .inl (fun j : Nat => zI (zC f g sp dp n (j : Int))))) := by rw [← hT]; rfl
  have oq : ∀ q : Nat, q ≠ a → (H.setIfInBounds a (vp_cell (D.2 0) (n1, .inl (fun j : Nat => zI (zC f g sp dp n (j : Int))))))[q]? = H[q]? := fun q hq => by simp [Array.getElem?_setIfInBounds, Ne.symm hq]
  have hz : (H.setIfInBounds a (vp_cell (D.2 0) (n1, .inl (fun j : Nat => zI (zC f g sp dp n (j : Int)))))).size = H.size := by simp
  obtain ⟨t, a1, b1'⟩ := kk _ (show (H.setIfInBounds a _)[a]? = some _ by simp [Array.getElem?_setIfInBounds, hl]) hz oq ls _ g1 (fun q hq => by
      rcases List.mem_append.mp hq with h | h
      · exact g2 q h
      · obtain ⟨z, -, hz⟩ := List.mem_map.mp h
        rw [← hz]
        exact hA) (g3.put hz oq hA) _ hheap X'
  exact ⟨t, step t a1, b1'⟩
/-- sets of letters as whole numbers -/
def sh (x : Int) : Int := ((2 ^ x.toNat : Nat) : Int)
def orI (a b : Int) : Int := ((a.toNat ||| b.toNat : Nat) : Int)
def andI (a b : Int) : Int := ((a.toNat &&& b.toNat : Nat) : Int)
theorem sh_16 {x : Int} (h0 : 0 ≤ x) (h1 : x < 4) : 0 ≤ sh x ∧ sh x < 16 := by
  have h : x = 0 ∨ x = 1 ∨ x = 2 ∨ x = 3 := by omega
  rcases h with rfl | rfl | rfl | rfl <;> decide
theorem or_16N : ∀ a, a < 16 → ∀ b, b < 16 → zI ((a : Nat) : Int) ||| zI ((b : Nat) : Int) = zI (((a ||| b : Nat)) : Int) ∧ a ||| b < 16 := by decide +kernel
theorem and_16N : ∀ a, a < 16 → ∀ b, b < 16 → zI ((a : Nat) : Int) &&& zI ((b : Nat) : Int) = zI (((a &&& b : Nat)) : Int) ∧ a &&& b < 16 := by decide +kernel
theorem orI_16 {a b : Int} (ha : 0 ≤ a ∧ a < 16) (hb : 0 ≤ b ∧ b < 16) : 0 ≤ orI a b ∧ orI a b < 16 := by
  have := (or_16N a.toNat (by omega) b.toNat (by omega)).2
  unfold orI
  omega
theorem andI_16 {a b : Int} (ha : 0 ≤ a ∧ a < 16) (hb : 0 ≤ b ∧ b < 16) : 0 ≤ andI a b ∧ andI a b < 16 := by
  have := (and_16N a.toNat (by omega) b.toNat (by omega)).2
  unfold andI
  omega
theorem shl_N : ∀ k, k < 4 → zI 1 <<< (zI ((k : Nat) : Int) &&& 31) = zI (sh (k : Int)) := by decide +kernel
theorem x_shl1 {x : Int} (ho : Ok D M cc nL own) (hd : decode cc pc = .ok (.ishl, 1)) (h : 0 ≤ x ∧ x < 4) (k : X M R nL A cs sl Q (pc + 1) L (zV (sh x) :: st) H) : X M R nL A cs sl Q pc L (zV x :: zV 1 :: st) H := fun ls locs h1 h2 h3 => by
  refine lv_ishl ho.1 ho.2.1 hd ?_
  have e := shl_N x.toNat (by omega)
  rw [show ((x.toNat : Nat) : Int) = x by omega] at e
  rw [e]
  exact k ls locs h1 h2 h3
theorem x_or16 {a b : Int} (ho : Ok D M cc nL own) (hd : decode cc pc = .ok (.ior, 1)) (ha : 0 ≤ a ∧ a < 16) (hb : 0 ≤ b ∧ b < 16) (k : X M R nL A cs sl Q (pc + 1) L (zV (orI a b) :: st) H) : X M R nL A cs sl Q pc L (zV b :: zV a :: st) H := fun ls locs h1 h2 h3 => by
  refine lv_ior ho.1 ho.2.1 hd ?_
  have e := (or_16N a.toNat (by omega) b.toNat (by omega)).1
  rw [show ((a.toNat : Nat) : Int) = a by omega, show ((b.toNat : Nat) : Int) = b by omega] at e
  rw [e]
  exact k ls locs h1 h2 h3
theorem x_and16 {a b : Int} (ho : Ok D M cc nL own) (hd : decode cc pc = .ok (.iand, 1)) (ha : 0 ≤ a ∧ a < 16) (hb : 0 ≤ b ∧ b < 16) (k : X M R nL A cs sl Q (pc + 1) L (zV (andI a b) :: st) H) : X M R nL A cs sl Q pc L (zV b :: zV a :: st) H := fun ls locs h1 h2 h3 => by
  refine lv_iand ho.1 ho.2.1 hd ?_
  have e := (and_16N a.toNat (by omega) b.toNat (by omega)).1
  rw [show ((a.toNat : Nat) : Int) = a by omega, show ((b.toNat : Nat) : Int) = b by omega] at e
  rw [e]
  exact k ls locs h1 h2 h3
end NATR
/-- the letters of a word as a set -/
def bitL (L : List Int) : Int := L.foldl (fun a x => orI a (sh x)) 0
theorem bitL_snoc (L : List Int) (x : Int) : bitL (L ++ [x]) = orI (bitL L) (sh x) := by
  unfold bitL
  rw [List.foldl_append]
  rfl
theorem bitL_16 {L : List Int} (h : wf L) : 0 ≤ bitL L ∧ bitL L < 16 := by
  have key : ∀ (K : List Int) (a : Int), (0 ≤ a ∧ a < 16) → wf K → 0 ≤ K.foldl (fun a x => orI a (sh x)) a ∧ K.foldl (fun a x => orI a (sh x)) a < 16 := by
    intro K
    induction K with
    | nil => intro a ha _; exact ha
    | cons x K ih =>
      intro a ha hw
      have hx := hw x List.mem_cons_self
      exact ih _ (orI_16 ha (sh_16 hx.1 hx.2)) (fun y hy => hw y (List.mem_cons_of_mem _ hy))
  exact key L 0 (by decide) h
/-- how often a letter comes -/
def cn (L : List Int) (z : Int) : Int := (L.count z : Int)
theorem cn_nil (z : Int) : cn [] z = 0 := rfl
theorem cn_snoc (L : List Int) (x z : Int) : cn (L ++ [x]) z = cn L z + if x = z then 1 else 0 := by
  unfold cn
  rw [List.count_append]
  by_cases h : x = z
  · subst h
    simp
  · simp [h]
theorem cn_r (L : List Int) (z : Int) : 0 ≤ cn L z ∧ cn L z ≤ (L.length : Int) := by
  unfold cn
  have := List.count_le_length (a := z) (l := L)
  omega
/-- an exchange of two letters -/
def sw (a b x : Int) : Int := if x = a then b else if x = b then a else x
theorem gA_map {L : List Int} {f : Int → Int} {z : Int} (h0 : 0 ≤ z) (h1 : z < (L.length : Int)) : gA (L.map f) z = f (gA L z) := by
  have a1 := gA_get h0 h1
  unfold gA at *
  rw [List.getD_eq_getElem?_getD, List.getElem?_map, a1]
  rfl
theorem wf_map {L : List Int} {f : Int → Int} (h : ∀ x, x ∈ L → 0 ≤ f x ∧ f x < 4) : wf (L.map f) := fun y hy => by
  obtain ⟨x, hx, rfl⟩ := List.mem_map.mp hy
  exact h x hx
theorem sw_r {a b x : Int} (ha : 0 ≤ a ∧ a < 4) (hb : 0 ≤ b ∧ b < 4) (hx : 0 ≤ x ∧ x < 4) : 0 ≤ sw a b x ∧ sw a b x < 4 := by
  unfold sw
  split
  · exact hb
  · split
    · exact ha
    · exact hx
/-- the first letter behind the others, or the last one ahead -/
def rot1 (L : List Int) : List Int := L.drop 1 ++ L.take 1
def rot2 (L : List Int) : List Int := L.drop (L.length - 1) ++ L.take (L.length - 1)
noncomputable def rot (right : Prop) (L : List Int) : List Int := @ite _ right (Classical.propDecidable right) (rot2 L) (rot1 L)
theorem rot_t {P : Prop} (h : P) (L : List Int) : rot P L = rot2 L := by unfold rot; exact if_pos h
theorem rot_f {P : Prop} (h : ¬ P) (L : List Int) : rot P L = rot1 L := by unfold rot; exact if_neg h
theorem gA_drop {L : List Int} {k : Nat} {z : Int} (h0 : 0 ≤ z) : gA (L.drop k) z = gA L (z + k) := by
  unfold gA
  rw [List.getD_eq_getElem?_getD, List.getD_eq_getElem?_getD, List.getElem?_drop]
  congr 2
  omega
theorem gA_take {L : List Int} {k : Nat} {z : Int} (h0 : 0 ≤ z) (h1 : z < k) : gA (L.take k) z = gA L z := by
  unfold gA
  rw [List.getD_eq_getElem?_getD, List.getD_eq_getElem?_getD, List.getElem?_take_of_lt (by omega)]
theorem rot1_len (L : List Int) : (rot1 L).length = L.length := by
  unfold rot1; simp; omega
theorem rot2_len (L : List Int) : (rot2 L).length = L.length := by
  unfold rot2; simp
theorem rot1_wf {L : List Int} (h : wf L) : wf (rot1 L) := wf_app (fun x hx => h x (List.mem_of_mem_drop hx)) (fun x hx => h x (List.mem_of_mem_take hx))
theorem rot2_wf {L : List Int} (h : wf L) : wf (rot2 L) := wf_app (fun x hx => h x (List.mem_of_mem_drop hx)) (fun x hx => h x (List.mem_of_mem_take hx))
theorem rot1_g {L : List Int} {z : Int} (h0 : 0 ≤ z) (h1 : z < (L.length : Int)) : gA (rot1 L) z = if z = (L.length : Int) - 1 then gA L 0 else gA L (z + 1) := by
  unfold rot1
  have hd : ((L.drop 1).length : Int) = (L.length : Int) - 1 := by simp; omega
  by_cases h : z = (L.length : Int) - 1
  · rw [if_pos h, gA_app2 (by omega), gA_take (by omega) (by omega)]
    congr 1
    omega
  · rw [if_neg h, gA_app1 h0 (by omega), gA_drop h0]
    rfl
theorem rot2_g {L : List Int} {z : Int} (h0 : 0 ≤ z) (h1 : z < (L.length : Int)) : gA (rot2 L) z = if z = 0 then gA L ((L.length : Int) - 1) else gA L (z - 1) := by
  unfold rot2
  have hd : ((L.drop (L.length - 1)).length : Int) = 1 := by simp; omega
  by_cases h : z = 0
  · rw [if_pos h, gA_app1 h0 (by omega), gA_drop h0]
    congr 1
    omega
  · rw [if_neg h, gA_app2 (by omega), gA_take (by omega) (by omega)]
    congr 1
    omega
theorem rot_one {L : List Int} (h : L.length < 2) : rot1 L = L ∧ rot2 L = L := by
  match L, h with
  | [], _ => exact ⟨rfl, rfl⟩
  | [x], _ => exact ⟨rfl, rfl⟩
