abbrev At (D : GG) (H : Heap) (a : Nat) (e : va_E) : Prop := va_at D.1 classes (a, e) H
abbrev oO (ci : Nat) (fs : List Value) : va_E := .inr (ci, fs)
abbrev oI (D : GG) (n : Nat) (f : Int → Int) : va_E := .inl (D.2 0, (n, .inl (fun j : Nat => zI (f (j : Int)))))
abbrev oC (D : GG) (n : Nat) (f : Int → Int) : va_E := .inl (D.2 2, (n, .inl (fun j : Nat => zI (f (j : Int)))))
abbrev oJ (D : GG) (n : Nat) (f : Int → Int64) : va_E := .inl (D.2 1, (n, .inr (.inl (fun j : Nat => f (j : Int)))))
abbrev oR (D : GG) (k n : Nat) (f : Int → Option Nat) : va_E := .inl (D.2 k, (n, .inr (.inr (.inr (.inr (fun j : Nat => f (j : Int)))))))
/-- a row with one place changed -/
def zU {α : Type} (f : Int → α) (i : Int) (v : α) : Int → α := fun j => if j = i then v else f j
theorem zU_s {α : Type} (f : Int → α) (i : Int) (v : α) : zU f i v i = v := if_pos rfl
theorem zU_n {α : Type} (f : Int → α) {i j : Int} (v : α) (h : j ≠ i) : zU f i v j = f j := if_neg h
theorem at_P {D : GG} {H : Heap} {a : Nat} {e : va_E} (h : At D H a e) : va_P D.1 classes [(a, e)] H := by
  intro k q hk
  have hz : k < 1 := (List.getElem?_eq_some_iff.mp hk).1
  rw [show k = 0 by omega] at hk
  cases hk
  exact h
theorem At.kept {D : GG} {H H1 : Heap} {a : Nat} {e : va_E} (h : At D H a e) (hq : H1[a]? = H[a]?) : At D H1 a e := va_at.kept h hq
theorem At.lt {D : GG} {H : Heap} {a : Nat} {e : va_E} (h : At D H a e) : a < H.size := va_at.lt h
/-- an object and an array aren't one cell; two fields lists of one address are those of one class -/
theorem At.ne {D : GG} {H : Heap} {a b : Nat} {n : Nat} {ci : Nat} {fs : List Value} {x : ClassId × vp_A} (hK : ∃ s : State, va_K D.1 classes (tys D) s) (h : a ≠ b) : a ≠ b := h
/-- what the tables say of a class -/
def Cl (ci : Nat) (C : String) (T : u_T) (N : Nat) (tf : Nat → FieldType) : Prop :=
  classes[ci]? = some (C, T, N) ∧ (∀ w ∈ u_ws C T N, w ∈ gtbl) ∧ (∀ k, k < N → parseFieldDescriptor (T k).2.2.1 = some (tf k)) ∧ ∀ a, a < N → ∀ b, b < N → a ≠ b → (T a).2.1 ≠ (T b).2.1
theorem cl_GR : Cl 0 R_GR F_GR 3 t_GR := ⟨rfl, i_GR, k_GR, n_GR⟩
theorem cl_HI : Cl 1 R_HI F_HI 2 t_HI := ⟨rfl, i_HI, k_HI, n_HI⟩
theorem cl_LE : Cl 2 R_LE F_LE 2 t_LE := ⟨rfl, i_LE, k_LE, n_LE⟩
theorem cl_LM : Cl 3 R_LM F_LM 2 t_LM := ⟨rfl, i_LM, k_LM, n_LM⟩
theorem cl_PT : Cl 4 R_PT F_PT 2 t_PT := ⟨rfl, i_PT, k_PT, n_PT⟩
theorem cl_PW : Cl 5 R_PW F_PW 2 t_PW := ⟨rfl, i_PW, k_PW, n_PW⟩
theorem cl_RT : Cl 6 R_RT F_RT 6 t_RT := ⟨rfl, i_RT, k_RT, n_RT⟩
theorem cl_RU : Cl 7 R_RU F_RU 2 t_RU := ⟨rfl, i_RU, k_RU, n_RU⟩
theorem cl_ST : Cl 8 R_ST F_ST 3 t_ST := ⟨rfl, i_ST, k_ST, n_ST⟩
theorem cl_TX : Cl 9 R_TX F_TX 2 t_TX := ⟨rfl, i_TX, k_TX, n_TX⟩
theorem cl_MW : Cl 10 R_MW F_MW 14 t_MW := ⟨rfl, i_MW, k_MW, n_MW⟩
theorem cl_MO : Cl 11 R_MO F_MO 17 t_MO := ⟨rfl, i_MO, k_MO, n_MO⟩
def QN (post : Option Value → Heap → Prop) (A : Nat → Prop) (n : Nat) : Array Value → State → Outcome → State → Prop := fun _ st oc t => ∃ v : Option Value, oc = .returned v ∧ post v t.heap ∧ FR A st.heap t.heap n
def Qof (M : MX) (A : Nat → Prop) (post : Option Value → Heap → Prop) (mc ms : Nat) : State → Prop := MQ M.2.2.2.2.2.2.1 (QN post A mc) M.2.2.2.2.2.1 M.2.2.2.1 mc ms A
/-- A METHOD'S CONTRACT: with these arguments, on a heap with 'pre', it returns, with 'post' of answer and heap; A: what it may change; mc, ms: what it makes -/
def Ct (l : Launch) (D : GG) (y : MethodName) (bytes : ByteArray) (maxL : Nat) (ret : Option FieldType) (rm : Room) (av : List Value) (pre : Heap → Prop) (A : Nat → Prop) (mc ms : Nat) (post : Option Value → Heap → Prop) : Prop :=
  Met l y (Cond.code y bytes maxL ret :: gtbl) rm (va_Pc av (fun U => pre U.heap ∧ KK D U)) (QN post A mc) mc ms A
theorem Ct.of {l : Launch} {D : GG} {y : MethodName} {bytes : ByteArray} {maxL : Nat} {ret : Option FieldType} {rm : Room} {av : List Value} {pre : Heap → Prop} {A : Nat → Prop} {mc ms : Nat} {post : Option Value → Heap → Prop} {L : List (Nat × Value)}
    (hy : plainName y.cls = true) (hs : (lg_sl av).length ≤ maxL) (hL : lv_args 0 av = L)
    (body : ∀ (M : MX) (H : Heap), Ok D M bytes maxL y.cls → M.2.2.2.2.2.2.2.1.sig.returnType = ret → M.2.2.2.2.2.2.2.1.name = y.name → M.2.2.2.1.heap = H → pre H → X M rm maxL A 0 0 (Qof M A post mc ms) 0 L [] H) : Ct l D y bytes maxL ret rm av pre A mc ms post := by
  refine Met.ofW (cc := bytes) (maxL := maxL) (ret := ret) hy rfl ?_
  intro p e s m args below meth c s₁ B hml hv
  obtain ⟨rfl, hpre, hK⟩ := hv
  have hts := atoms_spec (ws := Cond.code y bytes maxL ret :: gtbl) B.pre
  rw [lg_entry_eq]
  have hl := lv_entry av (n := maxL) hs
  rw [hL] at hl
  exact body (p, l, e, s, m, av.toArray, below, meth, c) s.heap ⟨B.exec, B.bytes, hml, findClass_of_methodNamed B.named, fun w hw => hts w (List.mem_cons_of_mem _ hw), hK, B.notSynchronized⟩ B.returns (name_of_methodNamed B.named B.method).1 rfl hpre _ [] hl (fun _ h => by cases h) ⟨rfl, fun _ _ _ => rfl⟩
/-- what the tables say of a method that is called -/
def Yv (y : MethodName) (bytes : ByteArray) (maxL : Nat) (ret : Option FieldType) (n : Nat) : Prop :=
  Cond.code y bytes maxL ret ∈ gtbl ∧ Cond.initialized y.cls ∈ gtbl ∧ (y.cls ≠ "java/lang/invoke/MethodHandle" ∧ y.cls ≠ "java/lang/invoke/VarHandle") ∧ (parseMethodDescriptor y.desc).map (fun d => d.parameters.length) = some n
section HROWS
variable {D : GG} {M : MX} {R : Room} {cc : ByteArray} {nL : Nat} {own : String} {A : Nat → Prop} {cs sl : Nat} {Q : State → Prop} {pc : Nat} {L : List (Nat × Value)} {st : List Value} {H : Heap}
theorem x_iret {post : Option Value → Heap → Prop} {a : Int} (ho : Ok D M cc nL own) (hr : M.2.2.2.2.2.2.2.1.sig.returnType = some .int) (hd : decode cc pc = .ok (.ireturn, 1)) (hp : post (some (zV a)) H) : X M R nL A cs sl (Qof M A post cs sl) pc L [zV a] H := by
  intro ls locs h1 h2 h3
  exact W.iret ho.1 ho.2.1 hr (fun t ht hW => ⟨_, rfl, by rw [ht]; exact hp, by rw [ht]; exact h3⟩) h2 hd ho.2.2.2.2.2.2
theorem x_zret {post : Option Value → Heap → Prop} {a : Int} (ho : Ok D M cc nL own) (hr : M.2.2.2.2.2.2.2.1.sig.returnType = some .boolean) (ha : a = 0 ∨ a = 1) (hd : decode cc pc = .ok (.ireturn, 1)) (hp : post (some (zV a)) H) : X M R nL A cs sl (Qof M A post cs sl) pc L [zV a] H := by
  intro ls locs h1 h2 h3
  exact W.zret ho.1 ho.2.1 hr (by rcases ha with rfl | rfl <;> rfl) (fun t ht hW => ⟨_, rfl, by rw [ht]; exact hp, by rw [ht]; exact h3⟩) h2 hd ho.2.2.2.2.2.2
theorem x_vret {post : Option Value → Heap → Prop} (ho : Ok D M cc nL own) (hr : M.2.2.2.2.2.2.2.1.sig.returnType = none) (hd : decode cc pc = .ok (.return_, 1)) (hp : post none H) : X M R nL A cs sl (Qof M A post cs sl) pc L [] H := by
  intro ls locs h1 h2 h3
  exact W.vret ho.1 ho.2.1 hr (fun t ht hW => ⟨_, rfl, by rw [ht]; exact hp, by rw [ht]; exact h3⟩) h2 hd ho.2.2.2.2.2.2
theorem x_aret {post : Option Value → Heap → Prop} {a : Nat} {C : String} (ho : Ok D M cc nL own) (hr : M.2.2.2.2.2.2.2.1.sig.returnType = some (.object C)) (hd : decode cc pc = .ok (.areturn, 1)) (hp : post (some (.ref a)) H) : X M R nL A cs sl (Qof M A post cs sl) pc L [.ref a] H := by
  intro ls locs h1 h2 h3
  exact W.aret ho.1 ho.2.1 hr (Or.inl ⟨_, rfl⟩) (Or.inr ⟨_, rfl⟩) (fun t ht hW => ⟨_, rfl, by rw [ht]; exact hp, by rw [ht]; exact h3⟩) h2 hd ho.2.2.2.2.2.2
theorem x_get {a ci idx N : Nat} {C : String} {T : u_T} {tf : Nat → FieldType} {fs : List Value} {v : Value} (k : Nat) (ho : Ok D M cc nL own) (hd : decode cc pc = .ok (.getfield idx, 3)) (hcl : Cl ci C T N tf) (hk : k < N) (hw : Cond.fieldLink own idx (T k).1 (T k).2.1 (T k).2.2.1 ∈ gtbl) (hat : At D H a (oO ci fs)) (hv : fs[k]? = some v) (kk : X M R nL A cs sl Q (pc + 3) L (v :: st) H) : X M R nL A cs sl Q pc L (.ref a :: st) H := fun ls locs h1 h2 h3 =>
  va_get ho.1 ho.2.1 ho.2.2.2.2.1 hcl.2.1 ho.2.2.2.1 ho.2.2.2.2.2.1.1 (at_P hat) 0 rfl hcl.1 k hk (ho.2.2.2.2.1 _ hw) (fun _ h => h) hv hd (kk ls locs h1 h2 h3)
theorem x_put {a ci idx N : Nat} {C : String} {T : u_T} {tf : Nat → FieldType} {fs : List Value} {v : Value} (k : Nat) (ho : Ok D M cc nL own) (hd : decode cc pc = .ok (.putfield idx, 3)) (hcl : Cl ci C T N tf) (hk : k < N) (hw : Cond.fieldLink own idx (T k).1 (T k).2.1 (T k).2.2.1 ∈ gtbl) (hat : At D H a (oO ci fs)) (hfin : (T k).2.2.2 = false) (hn : narrow (tf k) v = v) (hfit : fits (tf k) v = true) (hl : k < fs.length) (hA : A a)
    (kk : ∀ H1 : Heap, At D H1 a (oO ci (fs.set k v)) → H1.size = H.size → (∀ q : Nat, q ≠ a → H1[q]? = H[q]?) → X M R nL A cs sl Q (pc + 3) L st H1) : X M R nL A cs sl Q pc L (v :: .ref a :: st) H := by
  intro ls locs g1 g2 g3
  obtain ⟨hc, hin, hty, hnm⟩ := hcl
  have hts := ho.2.2.2.2.1
  have hK := ho.2.2.2.2.2.1.1
  have hap := va_apart (own := own) hts hin tf hty hnm hK hc
  obtain ⟨r, h1, cell, q1, q2, q3, q4⟩ := hat
  have hr : r = (C, T, N) := Option.some.inj (h1.symm.trans hc)
  subst hr
  obtain ⟨hS, hfc, kC, hkC, hkind⟩ := hK.1 ci _ hc
  obtain ⟨cf, kf, fi, f, hi, hsl⟩ := hS k hk
  have hlay := hts _ (hin _ (u_in_lay hk))
  unfold u_lay at hlay
  rw [if_neg (by rw [hfin]; decide)] at hlay
  have hst := (u_facts hfc hkC (u_lays hts hin hk) hi).1
  have h6 := u_store hfc hkC hkind hlay hi (hty k hk) hn hfit
  refine W.putK ho.1 ho.2.1 (f := f) ⟨ho.2.2.2.1, ho.2.2.2.2.1 _ hw, ⟨_, _, _, hi⟩, hst⟩ (by rw [q2]; exact h6) q1 q3 (by rw [hsl]; exact k2_hasslot (q4 k hk)) rfl rfl hd fun H' e1 e2 e3 => ?_
  rw [hsl] at e1
  refine kk H' ⟨_, hc, t_OB.to (V := updV (vp_V fs) k v) ⟨_, e1, q2, q3, t_set q4 hap hk v⟩ (fun j _ => vp_updV_set hl v j)⟩ e2 e3 ls _ g1 (fun q hq => ?_) (g3.put e2 e3 hA)
  rcases List.mem_append.mp hq with h | h
  · exact g2 q h
  · rw [List.mem_singleton.mp h]; exact hA
theorem x_putF {a ci idx N : Nat} {C : String} {T : u_T} {tf : Nat → FieldType} {fs : List Value} {v : Value} (k : Nat) (ho : Ok D M cc nL own) (hin2 : M.2.2.2.2.2.2.2.1.name = "<init>") (hd : decode cc pc = .ok (.putfield idx, 3)) (hcl : Cl ci C T N tf) (hk : k < N) (hw : Cond.fieldLink own idx (T k).1 (T k).2.1 (T k).2.2.1 ∈ gtbl) (hat : At D H a (oO ci fs)) (hfin : (T k).2.2.2 = true) (hdecl : (T k).1 = own) (hn : narrow (tf k) v = v) (hfit : fits (tf k) v = true) (hl : k < fs.length) (hA : A a)
    (kk : ∀ H1 : Heap, At D H1 a (oO ci (fs.set k v)) → H1.size = H.size → (∀ q : Nat, q ≠ a → H1[q]? = H[q]?) → X M R nL A cs sl Q (pc + 3) L st H1) : X M R nL A cs sl Q pc L (v :: .ref a :: st) H := by
  intro ls locs g1 g2 g3
  obtain ⟨hc, hin, hty, hnm⟩ := hcl
  have hts := ho.2.2.2.2.1
  have hK := ho.2.2.2.2.2.1.1
  have hown := ho.2.2.2.1
  have hap := va_apart (own := own) hts hin tf hty hnm hK hc
  obtain ⟨r, h1, cell, q1, q2, q3, q4⟩ := hat
  have hr : r = (C, T, N) := Option.some.inj (h1.symm.trans hc)
  subst hr
  obtain ⟨hS, hfc, kC, hkC, hkind⟩ := hK.1 ci _ hc
  obtain ⟨cf, kf, fi, f, hi, hsl⟩ := hS k hk
  have hlay := hts _ (hin _ (u_in_lay hk))
  unfold u_lay at hlay
  rw [if_pos hfin] at hlay
  have hst := (u_facts hfc hkC (u_lays hts hin hk) hi).1
  have hcf : M.2.2.2.2.1.cls = cf := by
    obtain ⟨_, _, c', _, _, _, -, -, hf', -, -, -, hown2, -⟩ := Cond.laysFinal_spec hlay
    have e1 : c' = cf := by have := hi.symm.trans hf'; simp at this; exact this.1.symm
    rw [hdecl] at hown2
    rw [← e1]; exact Option.some.inj (hown.symm.trans hown2)
  have h6 := u_fits hfc hkC hkind (Or.inr hlay) hi (hty k hk) hn hfit
  refine W.putFinK ho.1 ho.2.1 hown (hts _ hw) hi hst hcf hin2 (by rw [q2]; exact h6) q1 q3 (by rw [hsl]; exact k2_hasslot (q4 k hk)) rfl rfl hd fun H' e1 e2 e3 => ?_
  rw [hsl] at e1
  refine kk H' ⟨_, hc, t_OB.to (V := updV (vp_V fs) k v) ⟨_, e1, q2, q3, t_set q4 hap hk v⟩ (fun j _ => vp_updV_set hl v j)⟩ e2 e3 ls _ g1 (fun q hq => ?_) (g3.put e2 e3 hA)
  rcases List.mem_append.mp hq with h | h
  · exact g2 q h
  · rw [List.mem_singleton.mp h]; exact hA
theorem zN {i : Int} {n : Nat} (h0 : 0 ≤ i) (h1 : i < n) (hn : n ≤ 100000) : ((zI i).toNatClampNeg : Int) = i := by rw [zI_n (by omega)]; omega
theorem x_iald {a n : Nat} {f : Int → Int} {i : Int} (ho : Ok D M cc nL own) (hd : decode cc pc = .ok (.iaload, 1)) (hat : At D H a (oI D n f)) (h0 : 0 ≤ i) (h1 : i < n) (hn : n ≤ 100000) (kk : X M R nL A cs sl Q (pc + 1) L (zV (f i) :: st) H) : X M R nL A cs sl Q pc L (zV i :: .ref a :: st) H := fun ls locs g1 g2 g3 =>
  va_iald ho.1 ho.2.1 ho.2.2.2.2.2.1.1 (at_P hat) 0 0 rfl rfl (zI_in h0 h1 (by omega)) hd (by rw [zN h0 h1 hn]; exact kk ls locs g1 g2 g3)
theorem x_cald {a n : Nat} {f : Int → Int} {i : Int} (ho : Ok D M cc nL own) (hd : decode cc pc = .ok (.caload, 1)) (hat : At D H a (oC D n f)) (h0 : 0 ≤ i) (h1 : i < n) (hn : n ≤ 100000) (kk : X M R nL A cs sl Q (pc + 1) L (zV (f i) :: st) H) : X M R nL A cs sl Q pc L (zV i :: .ref a :: st) H := fun ls locs g1 g2 g3 =>
  va_cald ho.1 ho.2.1 ho.2.2.2.2.2.1.1 (at_P hat) 0 2 rfl rfl (zI_in h0 h1 (by omega)) hd (by rw [zN h0 h1 hn]; exact kk ls locs g1 g2 g3)
theorem x_lald {a n : Nat} {f : Int → Int64} {i : Int} (ho : Ok D M cc nL own) (hd : decode cc pc = .ok (.laload, 1)) (hat : At D H a (oJ D n f)) (h0 : 0 ≤ i) (h1 : i < n) (hn : n ≤ 100000) (kk : X M R nL A cs sl Q (pc + 1) L (.long (f i) :: st) H) : X M R nL A cs sl Q pc L (zV i :: .ref a :: st) H := fun ls locs g1 g2 g3 =>
  va_lald ho.1 ho.2.1 ho.2.2.2.2.2.1.1 (at_P hat) 0 1 rfl rfl (zI_in h0 h1 (by omega)) hd (by rw [zN h0 h1 hn]; exact kk ls locs g1 g2 g3)
theorem x_aald {a n k b : Nat} {C : String} {f : Int → Option Nat} {i : Int} (ho : Ok D M cc nL own) (hd : decode cc pc = .ok (.aaload, 1)) (hat : At D H a (oR D k n f)) (ht : (tys D)[k]? = some (D.2 k, .object C)) (h0 : 0 ≤ i) (h1 : i < n) (hn : n ≤ 100000) (hb : f i = some b) (kk : X M R nL A cs sl Q (pc + 1) L (.ref b :: st) H) : X M R nL A cs sl Q pc L (zV i :: .ref a :: st) H := fun ls locs g1 g2 g3 =>
  va_aldq ho.1 ho.2.1 ho.2.2.2.2.2.1.1 (at_P hat) 0 k rfl ht (zI_in h0 h1 (by omega)) hd (by rw [zN h0 h1 hn, hb]; exact kk ls locs g1 g2 g3)
theorem x_alen {a n : Nat} {f : Int → Int} (ho : Ok D M cc nL own) (hd : decode cc pc = .ok (.arraylength, 1)) (hat : At D H a (oI D n f)) (kk : X M R nL A cs sl Q (pc + 1) L (zV (n : Int) :: st) H) : X M R nL A cs sl Q pc L (.ref a :: st) H := fun ls locs g1 g2 g3 =>
  va_alen ho.1 ho.2.1 ho.2.2.2.2.2.1.1 (at_P hat) 0 0 rfl (ty := .int) rfl (zI_nat n) hd (kk ls locs g1 g2 g3)
theorem x_alenC {a n : Nat} {f : Int → Int} (ho : Ok D M cc nL own) (hd : decode cc pc = .ok (.arraylength, 1)) (hat : At D H a (oC D n f)) (kk : X M R nL A cs sl Q (pc + 1) L (zV (n : Int) :: st) H) : X M R nL A cs sl Q pc L (.ref a :: st) H := fun ls locs g1 g2 g3 =>
  va_alen ho.1 ho.2.1 ho.2.2.2.2.2.1.1 (at_P hat) 0 2 rfl (ty := .char) rfl (zI_nat n) hd (kk ls locs g1 g2 g3)
theorem x_alenJ {a n : Nat} {f : Int → Int64} (ho : Ok D M cc nL own) (hd : decode cc pc = .ok (.arraylength, 1)) (hat : At D H a (oJ D n f)) (kk : X M R nL A cs sl Q (pc + 1) L (zV (n : Int) :: st) H) : X M R nL A cs sl Q pc L (.ref a :: st) H := fun ls locs g1 g2 g3 =>
  va_alen ho.1 ho.2.1 ho.2.2.2.2.2.1.1 (at_P hat) 0 1 rfl (ty := .long) rfl (zI_nat n) hd (kk ls locs g1 g2 g3)
theorem zU_nat {α : Type} (f : Int → α) {i : Int} (h0 : 0 ≤ i) (v : α) (j : Nat) : zU f i v (j : Int) = if j = i.toNat then v else f j := by
  unfold zU
  by_cases h : (j : Int) = i
  · rw [if_pos h, if_pos (by omega)]
  · rw [if_neg h, if_neg (by omega)]
theorem mem_snoc {α : Type} {P : α → Prop} {l : List α} {x : α} (h : ∀ q ∈ l, P q) (hx : P x) : ∀ q ∈ l ++ [x], P q := by
  intro q hq
  rcases List.mem_append.mp hq with h' | h'
  · exact h q h'
  · rw [List.mem_singleton.mp h']; exact hx
theorem x_iast {a n : Nat} {f : Int → Int} {i v : Int} (ho : Ok D M cc nL own) (hd : decode cc pc = .ok (.iastore, 1)) (hat : At D H a (oI D n f)) (h0 : 0 ≤ i) (h1 : i < n) (hn : n ≤ 100000) (hA : A a)
    (kk : ∀ H1 : Heap, At D H1 a (oI D n (zU f i v)) → H1.size = H.size → (∀ q : Nat, q ≠ a → H1[q]? = H[q]?) → X M R nL A cs sl Q (pc + 1) L st H1) : X M R nL A cs sl Q pc L (zV v :: zV i :: .ref a :: st) H := by
  intro ls locs g1 g2 g3
  have hK := ho.2.2.2.2.2.1.1
  refine W.iast ho.1 ho.2.1 hat ((hK.2 0 _ rfl).1 n (fun j => .int (zI (f (j : Int))))) (fun q => by cases q) (by show ¬ (zI i < 0 ∨ (arrV _ _ _).slots.size ≤ _); rw [arrV_size]; exact zI_in h0 h1 (by omega)) rfl rfl hd fun H1 e z oq => ?_
  refine kk H1 ?_ z oq ls _ g1 (mem_snoc g2 hA) (g3.put z oq hA)
  show H1[a]? = some (vp_cell _ _)
  rw [e]
  show some ((vp_cell _ _).setSlot _ _) = _
  rw [vp_cell_i, vp_cell_i, arrV_store]
  congr 2
  funext q
  rw [zU_nat f h0, zI_n (by omega)]
  unfold updV
  split <;> rfl
theorem x_cast {a n : Nat} {f : Int → Int} {i v : Int} (ho : Ok D M cc nL own) (hd : decode cc pc = .ok (.castore, 1)) (hat : At D H a (oC D n f)) (h0 : 0 ≤ i) (h1 : i < n) (hn : n ≤ 100000) (hv : narrow .char (zV v) = zV v) (hA : A a)
    (kk : ∀ H1 : Heap, At D H1 a (oC D n (zU f i v)) → H1.size = H.size → (∀ q : Nat, q ≠ a → H1[q]? = H[q]?) → X M R nL A cs sl Q (pc + 1) L st H1) : X M R nL A cs sl Q pc L (zV v :: zV i :: .ref a :: st) H := by
  intro ls locs g1 g2 g3
  have hK := ho.2.2.2.2.2.1.1
  refine W.cast ho.1 ho.2.1 hat ((hK.2 2 _ rfl).1 n (fun j => .int (zI (f (j : Int))))) (fun q => by cases q) (by show ¬ (zI i < 0 ∨ (arrV _ _ _).slots.size ≤ _); rw [arrV_size]; exact zI_in h0 h1 (by omega)) rfl rfl hd fun H1 e z oq => ?_
  refine kk H1 ?_ z oq ls _ g1 (mem_snoc g2 hA) (g3.put z oq hA)
  show H1[a]? = some (vp_cell _ _)
  rw [e, hv]
  show some ((vp_cell _ _).setSlot _ _) = _
  rw [vp_cell_i, vp_cell_i, arrV_store]
  congr 2
  funext q
  rw [zU_nat f h0, zI_n (by omega)]
  unfold updV
  split <;> rfl
theorem x_last {a n : Nat} {f : Int → Int64} {i : Int} {v : Int64} (ho : Ok D M cc nL own) (hd : decode cc pc = .ok (.lastore, 1)) (hat : At D H a (oJ D n f)) (h0 : 0 ≤ i) (h1 : i < n) (hn : n ≤ 100000) (hA : A a)
    (kk : ∀ H1 : Heap, At D H1 a (oJ D n (zU f i v)) → H1.size = H.size → (∀ q : Nat, q ≠ a → H1[q]? = H[q]?) → X M R nL A cs sl Q (pc + 1) L st H1) : X M R nL A cs sl Q pc L (.long v :: zV i :: .ref a :: st) H := by
  intro ls locs g1 g2 g3
  have hK := ho.2.2.2.2.2.1.1
  refine W.last ho.1 ho.2.1 hat ((hK.2 1 _ rfl).1 n (fun j => .long (f (j : Int)))) (fun q => by cases q) (by show ¬ (zI i < 0 ∨ (arrV _ _ _).slots.size ≤ _); rw [arrV_size]; exact zI_in h0 h1 (by omega)) rfl rfl hd fun H1 e z oq => ?_
  refine kk H1 ?_ z oq ls _ g1 (mem_snoc g2 hA) (g3.put z oq hA)
  show H1[a]? = some (vp_cell _ _)
  rw [e]
  show some ((vp_cell _ _).setSlot _ _) = _
  rw [vp_cell_l, vp_cell_l, arrV_store]
  congr 2
  funext q
  rw [zU_nat f h0, zI_n (by omega)]
  unfold updV
  split <;> rfl
theorem x_aast {a n k b ci : Nat} {r : vw_C} {fs : List Value} {f : Int → Option Nat} {i : Int} (ho : Ok D M cc nL own) (hd : decode cc pc = .ok (.aastore, 1)) (hat : At D H a (oR D k n f)) (ht : (tys D)[k]? = some (D.2 k, .object r.1)) (hb : At D H b (oO ci fs)) (hc : classes[ci]? = some r) (h0 : 0 ≤ i) (h1 : i < n) (hn : n ≤ 100000) (hA : A a)
    (kk : ∀ H1 : Heap, At D H1 a (oR D k n (zU f i (some b))) → H1.size = H.size → (∀ q : Nat, q ≠ a → H1[q]? = H[q]?) → X M R nL A cs sl Q (pc + 1) L st H1) : X M R nL A cs sl Q pc L (.ref b :: zV i :: .ref a :: st) H := by
  intro ls locs g1 g2 g3
  have hK := ho.2.2.2.2.2.1.1
  obtain ⟨r', hr', cellV, e1, e2, e3, -⟩ := hb
  have hcls := (hK.1 ci r hc).2
  obtain ⟨kA, comp, k1, k2, k3, -⟩ := (hK.2 k _ ht).2
  have hcomp : comp = D.1.1 ci := Option.some.inj (k3.symm.trans hcls.1)
  subst hcomp
  obtain ⟨kC, hkC, -⟩ := hcls.2
  have hin := zI_in h0 h1 (by omega)
  refine W.aast ho.1 ho.2.1 hat (fun q h => by cases h) (fun h => by cases h) k1 k2 rfl hkC ⟨fun q => hin (Or.inl q), by show (zI i).toNatClampNeg < (arrV _ _ _).slots.size; rw [arrV_size, zI_n (a := i) ⟨h0, by omega⟩]; show i.toNat < n; omega⟩ e1 (fun q h => by rw [e3] at h; cases h) (by rw [e2]; exact hkC) (by rw [e2]; exact va_assign hcls) rfl rfl hd fun H1 e z oq => ?_
  refine kk H1 ?_ z oq ls _ g1 (mem_snoc g2 hA) (g3.put z oq hA)
  show H1[a]? = some (vp_cell _ _)
  rw [e]
  show some ((vp_cell _ _).setSlot _ _) = _
  rw [vp_cell_q, vp_cell_q, arrV_store]
  congr 2
  funext q
  rw [zU_nat f h0, zI_n (by omega)]
  unfold updV
  split <;> rfl
/-- any call: what the kit's call gives, with the callee's contract -/
theorem x_call {mc ms : Nat} {A1 : Nat → Prop} {post : Option Value → Heap → Prop} {st0 rest : List Value} {av : Array Value}
    (hrun : ∀ (ls : Array Slot) (locs : List Loc), ls.size = nL → va_Run M.1 M.2.1 M.2.2.1 R M.2.2.2.1 M.2.2.2.2.1 M.2.2.2.2.2.1 M.2.2.2.2.2.2.1 M.2.2.2.2.2.2.2.1 M.2.2.2.2.2.2.2.2 H locs cs sl mc ms (F0 M.2.2.2.2.1 pc ls st0) rest (QN post A1 mc av) A1) (hA : ∀ q, A1 q → A q)
    (kk : ∀ (v : Option Value) (H1 : Heap), post v H1 → FR A1 H H1 mc → X M R nL A (cs + mc) (sl + ms) Q (pc + 3) L (v.toList ++ rest) H1) : X M R nL A cs sl Q pc L st0 H := by
  intro ls locs g1 g2 g3 T hT XX
  obtain ⟨v, st₀, t, T', L', h0, X', hL, e1, e2, hQ, hst⟩ := hrun ls locs g1.1 T hT XX
  obtain ⟨v', hv, hp, hF⟩ := hQ
  cases hv
  rw [h0] at hF
  obtain ⟨t2, a1, b1⟩ := kk v T'.heap (by rw [e1]; exact hp) (by rw [e1]; exact hF) ls (locs ++ L') g1 (fun q hq => by
    rcases List.mem_append.mp hq with h | h
    · exact g2 q h
    · exact hA _ (hL q h)) (g3.call (by rw [e1]; exact hF) hA) T' rfl X'
  exact ⟨t2, hst t2 a1, b1⟩
theorem ct_blind {D : GG} {av : List Value} {pre : Heap → Prop} : FrameBlind (va_Pc av (fun U => pre U.heap ∧ KK D U)) := fun _ _ _ _ h => ⟨h.1, h.2.1, h.2.2.same rfl⟩
theorem yv_B {y : MethodName} {bytes : ByteArray} {maxL n mc ms : Nat} {ret : Option FieldType} {rm : Room} {idx : Nat} (ho : Ok D M cc nL own) (hy : Yv y bytes maxL ret n) (hlk : Cond.methodLink own idx y ∈ gtbl) (hc : rm.cells = mc) (hs : rm.slots = ms) (hr : rm.frames + 1 ≤ R.frames ∧ 8 + (maxL + 11) + rm.locals ≤ R.locals) : CallB R M.2.2.2.1 M.2.2.2.2.2.1 own idx y bytes maxL ret (Cond.code y bytes maxL ret :: gtbl) rm mc ms n := by
  have hts := ho.2.2.2.2.1
  have hG : GoodIn gtbl (Cond.code y bytes maxL ret :: gtbl) := fun w hw => by
    rcases List.mem_cons.mp hw with h | h
    · rw [h]; exact ⟨hy.1, gtbl_good' hy.1⟩
    · exact ⟨h, gtbl_good' h⟩
  refine ⟨hc, hs, hr.1, hr.2, pay_in hts hG, List.mem_cons_self, hts _ hy.1, hts _ hy.2.1, hy.2.2.1, fun sig h => ?_, hts _ hlk⟩
  have h2 := hy.2.2.2
  rw [h] at h2
  exact (Option.some.inj h2).symm
theorem yv_N {y : MethodName} {bytes : ByteArray} {maxL n mc ms : Nat} {ret : Option FieldType} {rm : Room} {idx : Nat} {host : String} (ho : Ok D M cc nL own) (hy : Yv y bytes maxL ret n) (hlk : (own, idx, y, host) ∈ nests) (hc : rm.cells = mc) (hs : rm.slots = ms) (hr : rm.frames + 1 ≤ R.frames ∧ 8 + (maxL + 11) + rm.locals ≤ R.locals) : va_CN R M.2.2.2.1 M.2.2.2.2.2.1 own idx y host bytes maxL ret (Cond.code y bytes maxL ret :: gtbl) rm mc ms n := by
  have hts := ho.2.2.2.2.1
  have hG : GoodIn gtbl (Cond.code y bytes maxL ret :: gtbl) := fun w hw => by
    rcases List.mem_cons.mp hw with h | h
    · rw [h]; exact ⟨hy.1, gtbl_good' hy.1⟩
    · exact ⟨h, gtbl_good' h⟩
  refine ⟨⟨hc, hs, hr.1, hr.2, pay_in hts hG, List.mem_cons_self⟩, hts _ hy.1, hts _ hy.2.1, hy.2.2.1, fun sig h => ?_, va_Nw.use rfl (ho.2.2.2.2.2.1.2.1 _ hlk)⟩
  have h2 := hy.2.2.2
  rw [h] at h2
  exact (Option.some.inj h2).symm
theorem at_recv {a ci : Nat} {fs : List Value} {r : vw_C} {s : State} (hK : KK D s) (hat : At D H a (oO ci fs)) (hc : classes[ci]? = some r) : ∃ cell : Cell, H[a]? = some cell ∧ cell.vm.isStatics = false ∧ s.vm.findClass r.1 = some cell.cls := va_recv hK.1 (at_P hat) (ci := ci) (q0 := 0) hc rfl
theorem x_fix (ho : Ok D M cc nL own) : CallFix M.1 M.2.2.2.2.1 M.2.2.2.2.2.2.2.2 cc nL M.2.2.2.1 M.2.2.2.2.2.1 gtbl own := ⟨ho.1, ho.2.1, ho.2.2.1, ho.2.2.2.1, ho.2.2.2.2.1⟩
/-- a call of an instance method (private ones too) -/
theorem x_callV {y : MethodName} {bytes : ByteArray} {maxL n mc ms b ci idx : Nat} {ret : Option FieldType} {rm : Room} {As st0 rest : List Value} {pre : Heap → Prop} {A1 : Nat → Prop} {post : Option Value → Heap → Prop} {fs : List Value} {r : vw_C}
    (ho : Ok D M cc nL own) (hd : decode cc pc = .ok (.invokevirtual idx, 3)) (hy : Yv y bytes maxL ret n) (hi : Cond.instanceMethod y ∈ gtbl) (hsel : Cond.selects y.cls y y ∈ gtbl) (hlk : Cond.methodLink own idx y ∈ gtbl) (hm : Ct M.2.1 D y bytes maxL ret rm (.ref b :: As) pre A1 mc ms post) (hc : rm.cells = mc) (hs : rm.slots = ms) (hr : rm.frames + 1 ≤ R.frames ∧ 8 + (maxL + 11) + rm.locals ≤ R.locals) (hf : cs + mc ≤ R.cells ∧ sl + ms ≤ R.slots) (hst : st0 = As.reverse ++ .ref b :: rest) (hn : As.length = n) (hcat : (rest.map fun v => v.category).sum ≤ 8) (hat : At D H b (oO ci fs)) (hci : classes[ci]? = some r) (hcls : r.1 = y.cls) (hpre : pre H) (hA : ∀ q, A1 q → A q)
    (kk : ∀ (v : Option Value) (H1 : Heap), post v H1 → FR A1 H H1 mc → X M R nL A (cs + mc) (sl + ms) Q (pc + 3) L (v.toList ++ rest) H1) : X M R nL A cs sl Q pc L st0 H :=
  x_call (fun ls locs hls => va_runV (As := As) (C := y.cls) (x_fix ho) hm ⟨yv_B ho hy hlk hc hs hr, ho.2.2.2.2.1 _ hi, ho.2.2.2.2.1 _ hsel⟩ ⟨ct_blind, by rw [← hcls]; exact at_recv ho.2.2.2.2.2.1 hat hci, fun U hU hW => ⟨rfl, by rw [hU]; exact hpre, ho.2.2.2.2.2.1.warm hW⟩⟩ rfl hn hls hst (lv_room hcat) hd hf) hA kk
theorem x_callS {y : MethodName} {bytes : ByteArray} {maxL n mc ms idx : Nat} {ret : Option FieldType} {rm : Room} {As st0 rest : List Value} {pre : Heap → Prop} {A1 : Nat → Prop} {post : Option Value → Heap → Prop}
    (ho : Ok D M cc nL own) (hd : decode cc pc = .ok (.invokestatic idx, 3)) (hy : Yv y bytes maxL ret n) (hi : Cond.static y ∈ gtbl) (hlk : Cond.methodLink own idx y ∈ gtbl) (hm : Ct M.2.1 D y bytes maxL ret rm As pre A1 mc ms post) (hc : rm.cells = mc) (hs : rm.slots = ms) (hr : rm.frames + 1 ≤ R.frames ∧ 8 + (maxL + 11) + rm.locals ≤ R.locals) (hf : cs + mc ≤ R.cells ∧ sl + ms ≤ R.slots) (hst : st0 = As.reverse ++ rest) (hn : As.length = n) (hcat : (rest.map fun v => v.category).sum ≤ 8) (hpre : pre H) (hA : ∀ q, A1 q → A q)
    (kk : ∀ (v : Option Value) (H1 : Heap), post v H1 → FR A1 H H1 mc → X M R nL A (cs + mc) (sl + ms) Q (pc + 3) L (v.toList ++ rest) H1) : X M R nL A cs sl Q pc L st0 H :=
  x_call (fun ls locs hls => va_runS (As := As) (x_fix ho) hm ⟨yv_B ho hy hlk hc hs hr, ho.2.2.2.2.1 _ hi⟩ ⟨ct_blind, fun U hU hW => ⟨rfl, by rw [hU]; exact hpre, ho.2.2.2.2.2.1.warm hW⟩⟩ rfl hn hls hst (lv_room hcat) hd hf) hA kk
theorem x_callSN {y : MethodName} {bytes : ByteArray} {maxL n mc ms idx : Nat} {host : String} {ret : Option FieldType} {rm : Room} {As st0 rest : List Value} {pre : Heap → Prop} {A1 : Nat → Prop} {post : Option Value → Heap → Prop}
    (ho : Ok D M cc nL own) (hd : decode cc pc = .ok (.invokestatic idx, 3)) (hy : Yv y bytes maxL ret n) (hi : Cond.static y ∈ gtbl) (hlk : (own, idx, y, host) ∈ nests) (hm : Ct M.2.1 D y bytes maxL ret rm As pre A1 mc ms post) (hc : rm.cells = mc) (hs : rm.slots = ms) (hr : rm.frames + 1 ≤ R.frames ∧ 8 + (maxL + 11) + rm.locals ≤ R.locals) (hf : cs + mc ≤ R.cells ∧ sl + ms ≤ R.slots) (hst : st0 = As.reverse ++ rest) (hn : As.length = n) (hcat : (rest.map fun v => v.category).sum ≤ 8) (hpre : pre H) (hA : ∀ q, A1 q → A q)
    (kk : ∀ (v : Option Value) (H1 : Heap), post v H1 → FR A1 H H1 mc → X M R nL A (cs + mc) (sl + ms) Q (pc + 3) L (v.toList ++ rest) H1) : X M R nL A cs sl Q pc L st0 H :=
  x_call (fun ls locs hls => va_runSN (As := As) (x_fix ho) hm ⟨yv_N ho hy hlk hc hs hr, ho.2.2.2.2.1 _ hi, trivial⟩ ⟨ct_blind, fun U hU hW => ⟨rfl, by rw [hU]; exact hpre, ho.2.2.2.2.2.1.warm hW⟩⟩ rfl hn hls hst (lv_room hcat) hd hf) hA kk
/-- a constructor's call -/
theorem x_callI {y : MethodName} {bytes : ByteArray} {maxL n mc ms b idx : Nat} {rm : Room} {As st0 rest : List Value} {pre : Heap → Prop} {A1 : Nat → Prop} {post : Option Value → Heap → Prop}
    (ho : Ok D M cc nL own) (hd : decode cc pc = .ok (.invokespecial idx, 3)) (hy : Yv y bytes maxL none n) (hnm : y.name = "<init>") (hi : Cond.instanceMethod y ∈ gtbl) (hlk : Cond.methodLink own idx y ∈ gtbl) (hm : Ct M.2.1 D y bytes maxL none rm (.ref b :: As) pre A1 mc ms post) (hc : rm.cells = mc) (hs : rm.slots = ms) (hr : rm.frames + 1 ≤ R.frames ∧ 8 + (maxL + 11) + rm.locals ≤ R.locals) (hf : cs + mc ≤ R.cells ∧ sl + ms ≤ R.slots) (hst : st0 = As.reverse ++ .ref b :: rest) (hn : As.length = n) (hcat : (rest.map fun v => v.category).sum ≤ 8) (hpre : pre H) (hA : ∀ q, A1 q → A q)
    (kk : ∀ (v : Option Value) (H1 : Heap), post v H1 → FR A1 H H1 mc → X M R nL A (cs + mc) (sl + ms) Q (pc + 3) L (v.toList ++ rest) H1) : X M R nL A cs sl Q pc L st0 H :=
  x_call (fun ls locs hls => va_runI (As := As) (x_fix ho) hm ⟨yv_B ho hy hlk hc hs hr, hnm, ho.2.2.2.2.1 _ hi⟩ ⟨ct_blind, fun U hU hW => ⟨rfl, by rw [hU]; exact hpre, ho.2.2.2.2.2.1.warm hW⟩⟩ rfl hn hls hst (lv_room hcat) hd hf) hA kk
theorem x_callIN {y : MethodName} {bytes : ByteArray} {maxL n mc ms b idx : Nat} {host : String} {rm : Room} {As st0 rest : List Value} {pre : Heap → Prop} {A1 : Nat → Prop} {post : Option Value → Heap → Prop}
    (ho : Ok D M cc nL own) (hd : decode cc pc = .ok (.invokespecial idx, 3)) (hy : Yv y bytes maxL none n) (hnm : y.name = "<init>") (hi : Cond.instanceMethod y ∈ gtbl) (hlk : (own, idx, y, host) ∈ nests) (hm : Ct M.2.1 D y bytes maxL none rm (.ref b :: As) pre A1 mc ms post) (hc : rm.cells = mc) (hs : rm.slots = ms) (hr : rm.frames + 1 ≤ R.frames ∧ 8 + (maxL + 11) + rm.locals ≤ R.locals) (hf : cs + mc ≤ R.cells ∧ sl + ms ≤ R.slots) (hst : st0 = As.reverse ++ .ref b :: rest) (hn : As.length = n) (hcat : (rest.map fun v => v.category).sum ≤ 8) (hpre : pre H) (hA : ∀ q, A1 q → A q)
    (kk : ∀ (v : Option Value) (H1 : Heap), post v H1 → FR A1 H H1 mc → X M R nL A (cs + mc) (sl + ms) Q (pc + 3) L (v.toList ++ rest) H1) : X M R nL A cs sl Q pc L st0 H :=
  x_call (fun ls locs hls => va_runIN (As := As) (x_fix ho) hm ⟨yv_N ho hy hlk hc hs hr, hnm, ho.2.2.2.2.1 _ hi⟩ ⟨ct_blind, fun U hU hW => ⟨rfl, by rw [hU]; exact hpre, ho.2.2.2.2.2.1.warm hW⟩⟩ rfl hn hls hst (lv_room hcat) hd hf) hA kk
/-- a method that changes nothing -/
def nA : Nat → Prop := fun _ => False
theorem fr_none {H H1 : Heap} (h : FR nA H H1 0) : H1 = H := by
  apply Array.ext_getElem?
  intro q
  by_cases hq : q < H.size
  · exact h.2 q hq (fun z => z)
  · have h1 := h.1
    rw [Array.getElem?_eq_none (by omega), Array.getElem?_eq_none (by omega)]
theorem fr_none' {A : Nat → Prop} : ∀ q : Nat, nA q → A q := fun _ h => h.elim
end HROWS
