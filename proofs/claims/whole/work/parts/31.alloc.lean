theorem FR.more {A : Nat → Prop} {H0 H H1 : Heap} {n h : Nat} (x : FR A H0 H n) (hh : H.size = h) (hz : H1.size = h + 1) (hq : ∀ q : Nat, q < h → H1[q]? = H[q]?) : FR A H0 H1 (n + 1) := by
  refine ⟨by rw [hz, ← hh, x.1]; omega, fun q h1 h2 => ?_⟩
  rw [hq q (by have := x.1; omega)]
  exact x.2 q h1 h2
section ALLOC
variable {D : GG} {M : MX} {R : Room} {cc : ByteArray} {nL : Nat} {own : String} {A : Nat → Prop} {cs sl : Nat} {Q : State → Prop} {pc : Nat} {L : List (Nat × Value)} {st : List Value} {H : Heap}
theorem x_oinit {idx a : Nat} (ho : Ok D M cc nL own) (hd : decode cc pc = .ok (.invokespecial idx, 3)) (hlk : Cond.methodLink own idx ⟨"java/lang/Object", "<init>", "()V"⟩ ∈ gtbl) (hfr : 1 ≤ R.frames) (hlo : (st.map fun v => v.category).sum + 12 ≤ R.locals) (kk : X M R nL A cs sl Q (pc + 3) L st H) : X M R nL A cs sl Q pc L (.ref a :: st) H := by
  intro ls locs g1 g2 g3
  refine W.objInit ho.1 ho.2.1 ho.2.2.2.1 (ho.2.2.2.2.1 _ hlk) (ho.2.2.2.2.1 _ g_74) (ho.2.2.2.2.1 _ g_75) rfl (by rw [ho.2.2.1]; exact g1.1) rfl hd hfr ?_ (kk ls locs g1 g2 g3)
  show 2 * 0 + _ + 12 ≤ _
  omega
theorem zI_nneg {n : Nat} (hn : n ≤ 100000) : ¬ zI (n : Int) < 0 := by
  rw [zI_0, zI_lt (by omega) (by omega)]
  omega
theorem zI_cl {n : Nat} (hn : n ≤ 100000) : (zI (n : Int)).toNatClampNeg = n := by rw [zI_n (by omega)]; omega
theorem x_newI {n h : Nat} {z : Int} (ho : Ok D M cc nL own) (hd : decode cc pc = .ok (.newarray .int, 2)) (hz : z = (n : Int)) (hn : n ≤ 100000) (hc : cs + 1 ≤ R.cells) (hs : sl + n ≤ R.slots) (hh : H.size = h)
    (kk : ∀ H1 : Heap, At D H1 h (oI D n (fun _ => 0)) → H1.size = h + 1 → (∀ q : Nat, q < h → H1[q]? = H[q]?) → X M R nL A (cs + 1) (sl + n) Q (pc + 2) L (.ref h :: st) H1) : X M R nL A cs sl Q pc L (zV z :: st) H := by
  intro ls locs g1 g2 g3
  subst hz
  have hK := ho.2.2.2.2.2.1.1
  refine va_newaK (atype := .int) ho.1 ho.2.1 (ho.2.2.2.2.1 (.arrayClass .int) g_104) rfl hd rfl (zI_nneg hn) (zI_cl hn) (by rw [show componentBytes (newarray.typeOf ArrayType.int) = 4 from rfl]; omega) hc hs hh fun H1 cA e z o hAr hNm => ?_
  have r1 : va_RA M.2.2.2.1 (D.2 0) .int := (hK.2 0 (D.2 0, .int) rfl).2
  have r2 : M.2.2.2.1.vm.findClass ("[" ++ (FieldType.int).toString) = some (D.2 0) := r1
  have r3 : M.2.2.2.1.vm.findClass ("[" ++ (FieldType.int).toString) = some cA := hNm
  have e2 : cA = D.2 0 := Option.some.inj (r3.symm.trans r2)
  subst e2
  have e9 : (fun _ : Nat => defaultValue (newarray.typeOf ArrayType.int)) = fun _ => (.int (zI 0) : Value) := by rw [← zI_0]; rfl
  refine kk H1 ?_ z o ls locs g1 g2 (g3.more hh z o)
  show H1[h]? = some (vp_cell _ _)
  rw [vp_cell_i, e, e9]
theorem x_newC {n h : Nat} {z : Int} (ho : Ok D M cc nL own) (hd : decode cc pc = .ok (.newarray .char, 2)) (hz : z = (n : Int)) (hn : n ≤ 100000) (hc : cs + 1 ≤ R.cells) (hs : sl + n ≤ R.slots) (hh : H.size = h)
    (kk : ∀ H1 : Heap, At D H1 h (oC D n (fun _ => 0)) → H1.size = h + 1 → (∀ q : Nat, q < h → H1[q]? = H[q]?) → X M R nL A (cs + 1) (sl + n) Q (pc + 2) L (.ref h :: st) H1) : X M R nL A cs sl Q pc L (zV z :: st) H := by
  intro ls locs g1 g2 g3
  subst hz
  have hK := ho.2.2.2.2.2.1.1
  refine va_newaK (atype := .char) ho.1 ho.2.1 (ho.2.2.2.2.1 (.arrayClass .char) g_161) rfl hd rfl (zI_nneg hn) (zI_cl hn) (by rw [show componentBytes (newarray.typeOf ArrayType.char) = 2 from rfl]; omega) hc hs hh fun H1 cA e z o hAr hNm => ?_
  have r1 : va_RA M.2.2.2.1 (D.2 2) .char := (hK.2 2 (D.2 2, .char) rfl).2
  have r2 : M.2.2.2.1.vm.findClass ("[" ++ (FieldType.char).toString) = some (D.2 2) := r1
  have r3 : M.2.2.2.1.vm.findClass ("[" ++ (FieldType.char).toString) = some cA := hNm
  have e2 : cA = D.2 2 := Option.some.inj (r3.symm.trans r2)
  subst e2
  have e9 : (fun _ : Nat => defaultValue (newarray.typeOf ArrayType.char)) = fun _ => (.int (zI 0) : Value) := by rw [← zI_0]; rfl
  refine kk H1 ?_ z o ls locs g1 g2 (g3.more hh z o)
  show H1[h]? = some (vp_cell _ _)
  rw [vp_cell_i, e, e9]
theorem x_newJ {n h : Nat} {z : Int} (ho : Ok D M cc nL own) (hd : decode cc pc = .ok (.newarray .long, 2)) (hz : z = (n : Int)) (hn : n ≤ 100000) (hc : cs + 1 ≤ R.cells) (hs : sl + n ≤ R.slots) (hh : H.size = h)
    (kk : ∀ H1 : Heap, At D H1 h (oJ D n (fun _ => 0)) → H1.size = h + 1 → (∀ q : Nat, q < h → H1[q]? = H[q]?) → X M R nL A (cs + 1) (sl + n) Q (pc + 2) L (.ref h :: st) H1) : X M R nL A cs sl Q pc L (zV z :: st) H := by
  intro ls locs g1 g2 g3
  subst hz
  have hK := ho.2.2.2.2.2.1.1
  refine va_newaK (atype := .long) ho.1 ho.2.1 (ho.2.2.2.2.1 (.arrayClass .long) g_190) rfl hd rfl (zI_nneg hn) (zI_cl hn) (by rw [show componentBytes (newarray.typeOf ArrayType.long) = 8 from rfl]; omega) hc hs hh fun H1 cA e z o hAr hNm => ?_
  have r1 : va_RA M.2.2.2.1 (D.2 1) .long := (hK.2 1 (D.2 1, .long) rfl).2
  have r2 : M.2.2.2.1.vm.findClass ("[" ++ (FieldType.long).toString) = some (D.2 1) := r1
  have r3 : M.2.2.2.1.vm.findClass ("[" ++ (FieldType.long).toString) = some cA := hNm
  have e2 : cA = D.2 1 := Option.some.inj (r3.symm.trans r2)
  subst e2
  have e9 : (fun _ : Nat => defaultValue (newarray.typeOf ArrayType.long)) = fun _ => (.long 0 : Value) := rfl
  refine kk H1 ?_ z o ls locs g1 g2 (g3.more hh z o)
  show H1[h]? = some (vp_cell _ _)
  rw [vp_cell_l, e, e9]
theorem x_newR {C : String} {idx n h k : Nat} {z : Int} (ho : Ok D M cc nL own) (hd : decode cc pc = .ok (.anewarray idx, 3)) (hlk : Cond.classLink own idx C ∈ gtbl) (hao : KK D M.2.2.2.1 → va_AO C M.2.2.2.1) (ht : (tys D)[k]? = some (D.2 k, .object C)) (hz : z = (n : Int)) (hn : n ≤ 100000) (hc : cs + 1 ≤ R.cells) (hs : sl + n ≤ R.slots) (hh : H.size = h)
    (kk : ∀ H1 : Heap, At D H1 h (oR D k n (fun _ => none)) → H1.size = h + 1 → (∀ q : Nat, q < h → H1[q]? = H[q]?) → X M R nL A (cs + 1) (sl + n) Q (pc + 3) L (.ref h :: st) H1) : X M R nL A cs sl Q pc L (zV z :: st) H := by
  intro ls locs g1 g2 g3
  subst hz
  subst hh
  have hK := ho.2.2.2.2.2.1.1
  have hcl := zI_cl hn
  have e0 : 4 * n ≤ 536870912 := by omega
  refine W.anew ho.1 ho.2.1 ho.2.2.2.1 (ho.2.2.2.2.1 _ hlk) (hao ho.2.2.2.2.2.1).use rfl hd rfl (zI_nneg hn) (by rw [hcl]; omega) hc (by rw [hcl]; exact hs) fun cA kA comp h1 h2 h3 h4 => ?_
  obtain ⟨kA', comp', k1, k2, k3, k4⟩ := (hK.2 k _ ht).2
  have e2 : cA = D.2 k := Option.some.inj (h1.symm.trans k4)
  subst e2
  rw [hcl]
  have hq : ∀ q : Nat, q < H.size → (H.push ({ cls := D.2 k, slots := Array.replicate n .null, vm := .none } : Cell))[q]? = H[q]? := fun q hq => by rw [Array.getElem?_push, if_neg (Nat.ne_of_lt hq)]
  refine kk _ ?_ (by simp) hq ls locs g1 g2 (g3.more rfl (by simp) hq)
  show (H.push _)[H.size]? = some (vp_cell _ _)
  rw [vp_cell_q, Array.getElem?_push, if_pos rfl, arrV_new]
  rfl
theorem x_new {C : String} {T : u_T} {N ci idx h : Nat} {tf : Nat → FieldType} {fs : List Value} (ho : Ok D M cc nL own) (hd : decode cc pc = .ok (.new idx, 3)) (hcl : Cl ci C T N tf) (hlk : Cond.classLink own idx C ∈ gtbl) (hin : Cond.instantiable C N ∈ gtbl) (hini : Cond.initialized C ∈ gtbl) (hfs : ∀ j, j < N → defaultValue (tf j) = vp_V fs j) (hc : cs + 1 ≤ R.cells) (hs : sl + N ≤ R.slots) (hh : H.size = h)
    (kk : ∀ H1 : Heap, At D H1 h (oO ci fs) → H1.size = h + 1 → (∀ q : Nat, q < h → H1[q]? = H[q]?) → X M R nL A (cs + 1) (sl + N) Q (pc + 3) L (.ref h :: st) H1) : X M R nL A cs sl Q pc L st H := by
  intro ls locs g1 g2 g3
  have hK := ho.2.2.2.2.2.1.1
  have hts := ho.2.2.2.2.1
  obtain ⟨h1, h2, h3, h4⟩ := hcl
  have hKn := hK.1 ci _ h1
  refine W.newcK ho.1 ho.2.1 ho.2.2.2.1 (hts _ hlk) (hts _ hin) (hts _ hini) rfl hd hc hs hKn.2.1 hh fun H1 kC hkC e1 z1 o1 => ?_
  exact kk H1 ⟨_, h1, (u_born tf hts h2 hKn hkC e1 h3).to hfs⟩ z1 o1 ls locs g1 g2 (g3.more hh z1 o1)
end ALLOC
