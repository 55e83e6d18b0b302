noncomputable def cif {α : Type} (P : Prop) (a b : α) : α := @ite α P (Classical.propDecidable P) a b
theorem cif_t {α : Type} {P : Prop} (h : P) {a b : α} : cif P a b = a := by unfold cif; exact if_pos h
theorem cif_f {α : Type} {P : Prop} (h : ¬ P) {a b : α} : cif P a b = b := by unfold cif; exact if_neg h
/-- state, snapshot, whether there is one, history, text -/
abbrev WV : Type := SV × SV × Int × List SV × List Int
def gd (n : SV) : Prop := (∀ i : Int, 0 ≤ i → i < 4 → 1 ≤ ((n.1 i).length : Int)) ∧ 1 ≤ (n.2.1.length : Int)
def gdW (V : WV) : Prop := gd V.1 ∧ gd V.2.1 ∧ (∀ y ∈ V.2.2.2.1, gd y) ∧ (V.2.2.1 = 0 ∨ V.2.2.1 = 1)
def act (n : SV) (V : WV) : WV := (n, V.2.1, V.2.2.1, recH V.2.2.2.1 V.1, V.2.2.2.2)
theorem gd_act {V : WV} {n : SV} (h : gdW V) (hn : gd n) : gdW (act n V) := by
  obtain ⟨h1, h2, h3, h4⟩ := h
  refine ⟨hn, h2, fun y hy => ?_, h4⟩
  have hy' : y ∈ recH V.2.2.2.1 V.1 := hy
  unfold recH at hy'
  split at hy'
  · rcases List.mem_append.mp hy' with q | q
    · exact h3 y q
    · rw [List.mem_singleton.mp q]; exact h1
  · rcases List.mem_append.mp hy' with q | q
    · exact h3 y (List.mem_of_mem_drop q)
    · rw [List.mem_singleton.mp q]; exact h1
theorem isHL.o {D : GG} {H : Heap} {h : Nat} {l : List SV} (x : isHL D H h l) : At D H h (oO 1 [.ref (h + 1), zV ((l.length : Int))]) := by
  obtain ⟨a, q, f, b, c⟩ := x
  exact b.1
theorem isHL.b {D : GG} {H : Heap} {h : Nat} {l : List SV} (x : isHL D H h l) : l.length ≤ 4 := x.1
/-- the whole object at x -/
def isW (D : GG) (H : Heap) (x : Nat) (V : WV) : Prop := ∃ (pn p : Int → Nat) (c : Int → List Int) (W1 W2 W3 : List Int) (t u : Int → Int) (fd : Int) (g : Int → Int64) (e1 e2 e3 m1 m2 : Int) (os N F : List Int),
  At D H x (oO 10 [.ref (x + 1), .ref (x + 18), zV V.2.2.1, .ref (x + 35), .ref (x + 105), .ref (x + 107), .ref (x + 119), .ref (x + 121), .ref (x + 123), .ref (x + 125), .ref (x + 128), .ref (x + 130), .ref (x + 131), .ref (x + 132)]) ∧
  At D H (x + 1) (oO 8 [.ref (x + 1 + 1), .ref (x + 1 + 13), .ref (x + 1 + 15)]) ∧ isR D H (x + 1 + 1) pn V.1.1 ∧ isL D H (x + 1 + 13) 300 V.1.2.1 ∧ isL D H (x + 1 + 15) 20 V.1.2.2 ∧
  isS D H (x + 18) V.2.1 ∧ isHL D H (x + 35) V.2.2.2.1 ∧ isT D H (x + 105) V.2.2.2.2 ∧ isR D H (x + 107) p c ∧ isL D H (x + 119) 300 W1 ∧ isL D H (x + 121) 300 W2 ∧ isL D H (x + 123) 20 W3 ∧ isP D H (x + 125) t u ∧ isPT D H (x + 128) fd g ∧ isG D H (x + 130) e1 e2 e3 ∧ isM D H (x + 131) m1 m2 ∧ isRT D H (x + 132) os N F ∧ gdW V
theorem isW_mk {D : GG} {H : Heap} {x : Nat} {V : WV} {pn p : Int → Nat} {c : Int → List Int} {W1 W2 W3 : List Int} {t u : Int → Int} {fd : Int} {g : Int → Int64} {e1 e2 e3 m1 m2 : Int} {os N F : List Int}
  (h1 : At D H x (oO 10 [.ref (x + 1), .ref (x + 18), zV V.2.2.1, .ref (x + 35), .ref (x + 105), .ref (x + 107), .ref (x + 119), .ref (x + 121), .ref (x + 123), .ref (x + 125), .ref (x + 128), .ref (x + 130), .ref (x + 131), .ref (x + 132)]))
  (h2 : At D H (x + 1) (oO 8 [.ref (x + 1 + 1), .ref (x + 1 + 13), .ref (x + 1 + 15)])) (h3 : isR D H (x + 1 + 1) pn V.1.1) (h4 : isL D H (x + 1 + 13) 300 V.1.2.1) (h5 : isL D H (x + 1 + 15) 20 V.1.2.2)
  (h6 : isS D H (x + 18) V.2.1) (h7 : isHL D H (x + 35) V.2.2.2.1) (h8 : isT D H (x + 105) V.2.2.2.2) (h9 : isR D H (x + 107) p c) (h10 : isL D H (x + 119) 300 W1) (h11 : isL D H (x + 121) 300 W2) (h12 : isL D H (x + 123) 20 W3) (h13 : isP D H (x + 125) t u) (h14 : isPT D H (x + 128) fd g) (h15 : isG D H (x + 130) e1 e2 e3) (h16 : isM D H (x + 131) m1 m2) (h17 : isRT D H (x + 132) os N F) (h18 : gdW V) : isW D H x V :=
  ⟨pn, p, c, W1, W2, W3, t, u, fd, g, e1, e2, e3, m1, m2, os, N, F, h1, h2, h3, h4, h5, h6, h7, h8, h9, h10, h11, h12, h13, h14, h15, h16, h17, h18⟩
theorem isW.kept {D : GG} {H H1 : Heap} {x : Nat} {V : WV} (h : isW D H x V) (hq : ∀ q : Nat, x ≤ q → q < x + 137 → H1[q]? = H[q]?) : isW D H1 x V := by
  obtain ⟨pn, p, c, W1, W2, W3, t, u, fd, g, e1, e2, e3, m1, m2, os, N, F, h1, h2, h3, h4, h5, h6, h7, h8, h9, h10, h11, h12, h13, h14, h15, h16, h17, h18⟩ := h
  exact isW_mk (h1.kept (hq _ (by omega) (by omega))) (h2.kept (hq _ (by omega) (by omega))) (h3.kept (fun q a b => hq q (by omega) (by omega))) (h4.kept (fun q a b => hq q (by omega) (by omega))) (h5.kept (fun q a b => hq q (by omega) (by omega))) (h6.kept (fun q a b => hq q (by omega) (by omega))) (h7.kept (fun q a b => hq q (by omega) (by omega))) (h8.kept (fun q a b => hq q (by omega) (by omega))) (h9.kept (fun q a b => hq q (by omega) (by omega))) (h10.kept (fun q a b => hq q (by omega) (by omega))) (h11.kept (fun q a b => hq q (by omega) (by omega))) (h12.kept (fun q a b => hq q (by omega) (by omega))) (h13.kept (fun q a b => hq q (by omega) (by omega))) (h14.kept (fun q a b => hq q (by omega) (by omega))) (h15.kept (fun q a b => hq q (by omega) (by omega))) (h16.kept (fun q a b => hq q (by omega) (by omega))) (h17.kept (fun q a b => hq q (by omega) (by omega))) h18
theorem isW.lt {D : GG} {H : Heap} {x : Nat} {V : WV} (h : isW D H x V) : x + 136 < H.size := by
  obtain ⟨pn, p, c, W1, W2, W3, t, u, fd, g, e1, e2, e3, m1, m2, os, N, F, h1, h2, h3, h4, h5, h6, h7, h8, h9, h10, h11, h12, h13, h14, h15, h16, h17, h18⟩ := h
  exact h17.lt
theorem isW.o {D : GG} {H : Heap} {x : Nat} {V : WV} (h : isW D H x V) : At D H x (oO 10 [.ref (x + 1), .ref (x + 18), zV V.2.2.1, .ref (x + 35), .ref (x + 105), .ref (x + 107), .ref (x + 119), .ref (x + 121), .ref (x + 123), .ref (x + 125), .ref (x + 128), .ref (x + 130), .ref (x + 131), .ref (x + 132)]) := by
  obtain ⟨pn, p, c, W1, W2, W3, t, u, fd, g, e1, e2, e3, m1, m2, os, N, F, h1, h2⟩ := h
  exact h1
-- WHAT EACH METHOD ANSWERS AND DOES
def same4 (c c' : Int → List Int) : Prop := ∀ j : Int, 0 ≤ j → j < 4 → c j = c' j
abbrev isA (a : Int) : Prop := 0 ≤ a ∧ a < 4
noncomputable def m_readRule (V : WV) : Int × WV := cif (¬ (aut V.2.2.2.2 0 (-1) V.1.1 0).1 = -1) (-100 - (aut V.2.2.2.2 0 (-1) V.1.1 0).1, V) (cif (same4 (aut V.2.2.2.2 0 (-1) V.1.1 0).2 V.1.1) (-5, V) (1 + cn V.2.2.2.2 59, act ((aut V.2.2.2.2 0 (-1) V.1.1 0).2, V.1.2) V))
noncomputable def m_square (V : WV) : Int × WV := cif (∀ i : Int, 0 ≤ i → i < 4 → ((imW V.1.1 (V.1.1 i)).length : Int) ≤ 8) (cif (same4 (fun i => imW V.1.1 (V.1.1 i)) V.1.1) (-5, V) (tot (fun i => imW V.1.1 (V.1.1 i)), act (fun i => imW V.1.1 (V.1.1 i), V.1.2) V)) (-3, V)
noncomputable def m_shift (P : Prop) (V : WV) : Int × WV := cif (comE P V.1.1 = -1) (-4, V) (cif (same4 (fun i => rot P (V.1.1 i)) V.1.1) (-5, V) (comE P V.1.1, act (fun i => rot P (V.1.1 i), V.1.2) V))
noncomputable def m_swap (a b : Int) (V : WV) : Int × WV := cif (isA a ∧ isA b) (cif (a = b) (-5, V) (cn V.1.2.1 a + cn V.1.2.1 b, act (fun i => (V.1.1 (sw a b i)).map (sw a b), V.1.2.1.map (sw a b), V.1.2.2) V)) (-1, V)
noncomputable def m_start (a : Int) (V : WV) : Int × WV := cif (isA a) (cif ([a] = V.1.2.1) (-5, V) ((V.1.2.1.length : Int), act (V.1.1, [a], V.1.2.2) V)) (-1, V)
def gwN (c : Int → List Int) (w : List Int) : Nat → List Int
  | 0 => w
  | n + 1 => tk (imW c (gwN c w n)) 300
noncomputable def m_grow (t : Int) (V : WV) : Int × WV := cif (1 ≤ t ∧ t ≤ 20) (cif (gwN V.1.1 V.1.2.1 t.toNat = V.1.2.1) (-5, V) (((gwN V.1.1 V.1.2.1 t.toNat).length : Int), act (V.1.1, gwN V.1.1 V.1.2.1 t.toNat, V.1.2.2) V)) (-2, V)
noncomputable def m_cut (t : Int) (V : WV) : Int × WV := cif (1 ≤ t ∧ t ≤ (V.1.2.1.length : Int)) (cif (tk V.1.2.1 t = V.1.2.1) (-5, V) ((V.1.2.1.length : Int) - t, act (V.1.1, tk V.1.2.1 t, V.1.2.2) V)) (-2, V)
noncomputable abbrev osW (V : WV) : List Int := ocs V.1.2.1 V.1.2.2
noncomputable abbrev roW (V : WV) : List Int := roo V.1.2.1 (osW V)
noncomputable abbrev fiW (V : WV) : List Int := fir V.1.2.1 (osW V)
noncomputable def m_derive (V : WV) : Int × WV := cif (1 ≤ rl (osW V) ∧ ((fiW V).length : Int) ≤ 4) (cif (roW V = V.1.2.1) (-5, V) (rl (osW V), act (V.1.1, roW V, V.1.2.2) V)) (-4, V)
noncomputable def m_look (V : WV) : Int × WV := cif (¬ (pau V.2.2.2.2 [] 0).1 = -1) (-100 - (pau V.2.2.2.2 [] 0).1, V) (cif ((pau V.2.2.2.2 [] 0).2 = V.1.2.2) (-5, V) (((ocs V.1.2.1 (pau V.2.2.2.2 [] 0).2).length : Int), act (V.1.1, V.1.2.1, (pau V.2.2.2.2 [] 0).2) V))
noncomputable def m_type (z : Int) (V : WV) : Int × WV := cif ((V.2.2.2.2.length : Int) < 60) ((V.2.2.2.2.length : Int) + 1, (V.1, V.2.1, V.2.2.1, V.2.2.2.1, V.2.2.2.2 ++ [z])) (-3, V)
noncomputable def m_clearText (V : WV) : Int × WV := ((V.2.2.2.2.length : Int), (V.1, V.2.1, V.2.2.1, V.2.2.2.1, []))
noncomputable def m_undo (V : WV) : Int × WV := cif (V.2.2.2.1 = []) (-5, V) ((V.2.2.2.1.length : Int) - 1, (gH V.2.2.2.1 ((V.2.2.2.1.length : Int) - 1), V.2.1, V.2.2.1, V.2.2.2.1.dropLast, V.2.2.2.2))
noncomputable def m_keep (V : WV) : Int × WV := ((V.1.2.1.length : Int), (V.1, V.1, 1, V.2.2.2.1, V.2.2.2.2))
noncomputable def m_restore (V : WV) : Int × WV := cif (V.2.2.1 = 0) (-5, V) ((V.2.1.2.1.length : Int), act V.2.1 V)
noncomputable def r_image (a p : Int) (V : WV) : Int := cif (isA a) (lat (V.1.1 a) p) (-1)
noncomputable def r_rule (a k : Int) (V : WV) : Int := cif (isA a) (cif (k = 0) (((V.1.1 a).length : Int)) (cif (k = 1) (bitL (V.1.1 a)) (cif (k = 2) (rea V.1.1 a) (cif (k = 3) (bI (lat (V.1.1 a) 0 = a ∧ 2 ≤ ((V.1.1 a).length : Int))) (-2))))) (-1)
noncomputable def r_lengthBehind (a n : Int) (V : WV) : Int := cif (isA a) (cif (0 ≤ n ∧ n ≤ 30) (cif (su (tN V.1.1 a n.toNat) ≤ 1000000) (su (tN V.1.1 a n.toNat)) (-3)) (-2)) (-1)
noncomputable def r_countBehind (a b n : Int) (V : WV) : Int := cif (isA a ∧ isA b) (cif (0 ≤ n ∧ n ≤ 30) (cif (su (tN V.1.1 a n.toNat) ≤ 1000000) (tN V.1.1 a n.toNat b) (-3)) (-2)) (-1)
noncomputable def mxF (c : Int → List Int) : Nat → Int
  | 0 => -5
  | f + 1 => cif (mixB c (16 - f)) (16 - (f : Int)) (mxF c f)
noncomputable def r_mixing (V : WV) : Int := mxF V.1.1 16
noncomputable def r_at (p : Int) (V : WV) : Int := lat V.1.2.1 p
noncomputable def r_pieces (s k : Int) (V : WV) : Int := cif ((1 ≤ s ∧ s ≤ 20) ∧ 0 ≤ k ∧ k ≤ 3) (pcs V.1.2.1 s k) (-2)
noncomputable def mmV (L : List Int) (z s : Int) : Int := @dite _ (∃ r : Int, ∃ mx mn : Int, isMM L z s ((L.length : Int)) mx mn ∧ r = mx - mn) (Classical.propDecidable _) (fun h => Classical.choose h) (fun _ => 0)
theorem mmV_e {L : List Int} {z s mx mn : Int} (h : isMM L z s ((L.length : Int)) mx mn) : mmV L z s = mx - mn := by
  have hx : ∃ r : Int, ∃ mx mn : Int, isMM L z s ((L.length : Int)) mx mn ∧ r = mx - mn := ⟨_, mx, mn, h, rfl⟩
  unfold mmV
  rw [dif_pos hx]
  obtain ⟨a, b, h1, h2⟩ := Classical.choose_spec hx
  have := isMM_u h h1
  omega
noncomputable def r_balance (a s : Int) (V : WV) : Int := cif (isA a) (cif (1 ≤ s ∧ s ≤ 300) (cif ((V.1.2.1.length : Int) < s) (-5) (mmV V.1.2.1 a s)) (-2)) (-1)
def dv (a b : Int) : Int := ((Nat.gcd a.toNat b.toNat : Nat) : Int)
noncomputable def r_share (a k : Int) (V : WV) : Int := cif (isA a) (cif (k = 0) (cn V.1.2.1 a / dv (cn V.1.2.1 a) ((V.1.2.1.length : Int))) (cif (k = 1) ((V.1.2.1.length : Int) / dv (cn V.1.2.1 a) ((V.1.2.1.length : Int))) (-2))) (-1)
def grV (L : List Int) : Int × Int × Int := grO L ((L.length : Int) - 1).toNat
noncomputable def r_run (k : Int) (V : WV) : Int := cif (0 ≤ k ∧ k ≤ 4) (cif (k = 0) (grV V.1.2.1).1 (cif (k = 1) (grV V.1.2.1).2.1 (cif (k = 2) (grV V.1.2.1).2.2 (cif (k = 3) ((grV V.1.2.1).2.2 / dv (grV V.1.2.1).2.2 (grV V.1.2.1).1) ((grV V.1.2.1).1 / dv (grV V.1.2.1).2.2 (grV V.1.2.1).1))))) (-2)
noncomputable def mrV (L : List Int) : Int × Int := @dite _ (∃ q : Int × Int, bestM L q.1 q.2) (Classical.propDecidable _) (fun h => Classical.choose h) (fun _ => (0, 0))
theorem mrV_e {L : List Int} {a b : Int} (h : bestM L a b) : (mrV L).1 = a ∧ (mrV L).2 = b := by
  have hx : ∃ q : Int × Int, bestM L q.1 q.2 := ⟨(a, b), h⟩
  unfold mrV
  rw [dif_pos hx]
  exact bestM_u (Classical.choose_spec hx) h
noncomputable def r_mirrored (k : Int) (V : WV) : Int := cif (0 ≤ k ∧ k ≤ 1) (cif (k = 0) (mrV V.1.2.1).1 (mrV V.1.2.1).2) (-2)
noncomputable def r_comes (r : Int) (V : WV) : Int := cif (r < 0) (-2) (cif (0 < (V.1.2.2.length : Int)) (cif (r < ((osW V).length : Int)) (gA (osW V) r) (-5)) (-4))
noncomputable def r_returns (n k : Int) (V : WV) : Int := cif (n < 0 ∨ ¬ (0 ≤ k ∧ k ≤ 2)) (-2) (cif (0 < (V.1.2.2.length : Int)) (cif (n < ((fiW V).length : Int)) (cif (k = 0) (gap (osW V) (gA (fiW V) n)) (cif (k = 1) (gA (osW V) (gA (fiW V) n)) (cn (roW V) n))) (-5)) (-4))
noncomputable def r_row (p : Int) (V : WV) : Int := cif (p < 0) (-2) (cif (0 < (V.1.2.2.length : Int)) (cif (p < rl (osW V)) (gA (roW V) p) (-5)) (-4))
noncomputable def r_count (k : Int) (V : WV) : Int := cif (k = 0) ((V.1.2.1.length : Int)) (cif (k = 1) (bitL V.1.2.1) (cif (k = 2) ((V.1.2.2.length : Int)) (cif (k = 3) (cif (0 < (V.1.2.2.length : Int)) (((osW V).length : Int)) (-5)) (cif (k = 4) (cif (0 < (V.1.2.2.length : Int)) (((fiW V).length : Int)) (-5)) (cif (k = 5) (tot V.1.1) (cif (k = 6) ((V.2.2.2.1.length : Int)) (cif (k = 7) ((V.2.2.2.2.length : Int)) (-2))))))))
theorem dv_step {y z : Int} (hy : 0 ≤ y) (hz : 0 < z) : dv z (y % z) = dv y z := by
  unfold dv
  have e : (y % z).toNat = y.toNat % z.toNat := by
    have h1 : ((y.toNat % z.toNat : Nat) : Int) = (y.toNat : Int) % (z.toNat : Int) := Int.natCast_emod _ _
    rw [show ((y.toNat : Nat) : Int) = y by omega, show ((z.toNat : Nat) : Int) = z by omega] at h1
    omega
  rw [e, Nat.gcd_comm y.toNat z.toNat, Nat.gcd_rec z.toNat y.toNat, Nat.gcd_comm]
theorem dv_0 {y : Int} (hy : 0 ≤ y) : dv y 0 = y := by
  unfold dv
  rw [show (0 : Int).toNat = 0 from rfl, Nat.gcd_zero_right]
  omega
theorem dv_1 {a b : Int} (hb : 1 ≤ b) : 1 ≤ dv a b ∧ dv a b ≤ b := by
  unfold dv
  have h1 := Nat.gcd_pos_of_pos_right a.toNat (n := b.toNat) (by omega)
  have h2 := Nat.gcd_le_right a.toNat (n := b.toNat) (by omega)
  omega
theorem eu_step {y z : Int} {n : Nat} (hz : 0 < z) (hy : z < y) (h : y * z * 2 ^ n ≤ 180000) : z * (y % z) * 2 ^ (n + 1) ≤ 180000 := by
  have h1 := Int.emod_nonneg y (b := z) (by omega)
  have h2 := Int.emod_lt_of_pos y (b := z) hz
  have h3 : z + y % z ≤ y := by
    have e := Int.mul_ediv_add_emod y z
    have h4 : 1 ≤ y / z := Int.le_ediv_of_mul_le hz (by omega)
    have h5 := Int.mul_le_mul_of_nonneg_left h4 (by omega : 0 ≤ z)
    omega
  have h4 : z * (y % z) * 2 ≤ y * z := by
    have a1 : (z + y % z) * z ≤ y * z := Int.mul_le_mul_of_nonneg_right h3 (by omega)
    have a2 : (y % z) * z ≤ z * z := Int.mul_le_mul_of_nonneg_right (by omega) (by omega)
    rw [Int.add_mul] at a1
    rw [Int.mul_comm z (y % z)]
    omega
  have h5 : z * (y % z) * 2 ^ (n + 1) = z * (y % z) * 2 * 2 ^ n := by
    rw [Int.pow_succ, Int.mul_comm (2 ^ n) 2, ← Int.mul_assoc]
  rw [h5]
  exact Int.le_trans (Int.mul_le_mul_of_nonneg_right h4 (Int.le_of_lt (Int.pow_pos (by decide)))) h
theorem eu_first {y z : Int} (hz : 0 < z ∧ z ≤ 300) : z * (y % z) * 2 ^ (0 + 1) ≤ 180000 := by
  have h1 := Int.emod_nonneg y (b := z) (by omega)
  have h2 := Int.emod_lt_of_pos y (b := z) hz.1
  have h3 := mul_9 (a := z) (b := y % z) (by omega) (by omega)
  rw [show (2 : Int) ^ (0 + 1) = 2 from rfl]
  omega
theorem eu_end {y z : Int} (hy : 1 ≤ y) (hz : 0 ≤ z) (h : y * z * 2 ^ 64 ≤ 180000) : z = 0 := by
  by_cases h0 : z = 0
  · exact h0
  · exfalso
    have h1 := Int.mul_le_mul_of_nonneg_right hy (show 0 ≤ z from hz)
    rw [show (2 : Int) ^ 64 = 18446744073709551616 from by decide] at h
    omega
theorem aut_gd : ∀ (xs : List Int) (due l : Int) (c : Int → List Int) (k : Int), 0 ≤ k → (∀ i : Int, 0 ≤ i → i < 4 → i ≠ l ∨ due = 0 → 1 ≤ ((c i).length : Int)) → (aut xs due l c k).1 = -1 → ∀ i : Int, 0 ≤ i → i < 4 → 1 ≤ (((aut xs due l c k).2 i).length : Int) := by
  intro xs
  induction xs with
  | nil =>
    intro due l c k hk h e i h0 h1
    have e' : (if due = 2 ∧ 0 < ((c l).length : Int) then (-1 : Int) else k) = -1 := e
    have hd : due = 2 ∧ 0 < ((c l).length : Int) := by
      by_cases q : due = 2 ∧ 0 < ((c l).length : Int)
      · exact q
      · rw [if_neg q] at e'; omega
    show 1 ≤ ((c i).length : Int)
    by_cases hi : i = l
    · subst hi; omega
    · exact h i h0 h1 (Or.inl hi)
  | cons x xs ih =>
    intro due l c k hk h e i h0 h1
    rw [aut] at e ⊢
    by_cases q1 : due = 0 ∧ ltr x ≠ -1
    · rw [if_pos q1] at e ⊢
      refine ih _ _ _ _ (by omega) (fun j g0 g1 g2 => ?_) e i h0 h1
      rcases g2 with g | g
      · rw [zU_n _ _ g]; exact h j g0 g1 (Or.inr q1.1)
      · omega
    · rw [if_neg q1] at e ⊢
      by_cases q2 : due = 1 ∧ x = 61
      · rw [if_pos q2] at e ⊢
        refine ih _ _ _ _ (by omega) (fun j g0 g1 g2 => ?_) e i h0 h1
        rcases g2 with g | g
        · exact h j g0 g1 (Or.inl g)
        · omega
      · rw [if_neg q2] at e ⊢
        by_cases q3 : due = 2 ∧ 0 < ((c l).length : Int) ∧ x = 59
        · rw [if_pos q3] at e ⊢
          refine ih _ _ _ _ (by omega) (fun j g0 g1 g2 => ?_) e i h0 h1
          by_cases hj : j = l
          · subst hj; omega
          · exact h j g0 g1 (Or.inl hj)
        · rw [if_neg q3] at e ⊢
          by_cases q4 : due = 2 ∧ ltr x ≠ -1 ∧ ((c l).length : Int) < 8
          · rw [if_pos q4] at e ⊢
            refine ih _ _ _ _ (by omega) (fun j g0 g1 g2 => ?_) e i h0 h1
            by_cases hj : j = l
            · subst hj; rw [zU_s, snoc_len]; omega
            · rw [zU_n _ _ hj]; exact h j g0 g1 (Or.inl hj)
          · rw [if_neg q4] at e
            have e2 : k = -1 := e
            omega
theorem imW_1 {c : Int → List Int} {w : List Int} (hc : ∀ i : Int, 0 ≤ i → i < 4 → 1 ≤ ((c i).length : Int)) (hw : wf w) (h : 1 ≤ (w.length : Int)) : 1 ≤ ((imW c w).length : Int) := by
  match w, h with
  | [], h => simp at h
  | x :: w, _ =>
    have hx := hw x List.mem_cons_self
    have := hc x hx.1 hx.2
    unfold imW
    rw [List.flatMap_cons, List.length_append]
    omega
theorem gwN_1 {c : Int → List Int} {w : List Int} (hc : ∀ i : Int, 0 ≤ i → i < 4 → 1 ≤ ((c i).length : Int)) (hcw : ∀ i : Int, 0 ≤ i → i < 4 → wf (c i)) (hw : wf w) (h : 1 ≤ (w.length : Int)) : ∀ n : Nat, 1 ≤ ((gwN c w n).length : Int) ∧ wf (gwN c w n) := by
  intro n
  induction n with
  | zero => exact ⟨h, hw⟩
  | succ n ih =>
    have hi := imW_1 hc ih.2 ih.1
    rw [gwN]
    exact ⟨by unfold tk; rw [List.length_take]; omega, wf_tk (wf_imW hcw ih.2) _⟩
theorem mxF_t {c : Int → List Int} {i : Int} (h : 1 ≤ i ∧ i ≤ 16) (hm : mixB c i.toNat) : mxF c (17 - i).toNat = i := by
  rw [show (17 - i).toNat = (16 - i).toNat + 1 by omega, mxF, cif_t (by rw [show 16 - (16 - i).toNat = i.toNat by omega]; exact hm)]
  omega
theorem mxF_f {c : Int → List Int} {i : Int} (h : 1 ≤ i ∧ i ≤ 16) (hm : ¬ mixB c i.toNat) : mxF c (17 - i).toNat = mxF c (17 - (i + 1)).toNat := by
  rw [show (17 - i).toNat = (16 - i).toNat + 1 by omega, mxF, cif_f (by rw [show 16 - (16 - i).toNat = i.toNat by omega]; exact hm)]
  congr 1
  omega
theorem len_ne {l : List SV} (h : l ≠ []) : 1 ≤ l.length := by
  cases l with
  | nil => exact absurd rfl h
  | cons a l => simp
theorem gd_undo {V : WV} (h : gdW V) (hl : V.2.2.2.1 ≠ []) : gdW (gH V.2.2.2.1 ((V.2.2.2.1.length : Int) - 1), V.2.1, V.2.2.1, V.2.2.2.1.dropLast, V.2.2.2.2) := by
  obtain ⟨h1, h2, h3, h4⟩ := h
  have hn := len_ne hl
  refine ⟨?_, h2, fun y hy => h3 y ((List.dropLast_sublist _).subset hy), h4⟩
  show gd (gH V.2.2.2.1 ((V.2.2.2.1.length : Int) - 1))
  unfold gH
  rw [List.getD_eq_getElem?_getD, List.getElem?_eq_getElem (by omega)]
  exact h3 _ (List.getElem_mem _)
theorem gd_sw {n : SV} {a b : Int} (h : gd n) (ha : 0 ≤ a ∧ a < 4) (hb : 0 ≤ b ∧ b < 4) : gd (fun i => (n.1 (sw a b i)).map (sw a b), n.2.1.map (sw a b), n.2.2) := by
  refine ⟨fun i h0 h1 => ?_, ?_⟩
  · show 1 ≤ (((n.1 (sw a b i)).map (sw a b)).length : Int)
    rw [List.length_map]
    have := sw_r ha hb ⟨h0, h1⟩
    exact h.1 _ this.1 this.2
  · show 1 ≤ ((n.2.1.map (sw a b)).length : Int)
    rw [List.length_map]
    exact h.2
theorem rot_len (P : Prop) (L : List Int) : (rot P L).length = L.length := by
  rcases Classical.em P with h | h
  · rw [rot_t h, rot2_len]
  · rw [rot_f h, rot1_len]
theorem pau_r : ∀ (xs K : List Int) (k : Int), 0 ≤ k → (0 ≤ k → True) → -1 ≤ (pau xs K k).1 ∧ (pau xs K k).1 ≤ k + xs.length := by
  intro xs
  induction xs with
  | nil => intro K k h0 _; show -1 ≤ (if 0 < k then (-1 : Int) else k) ∧ (if 0 < k then (-1 : Int) else k) ≤ k + ((0 : Nat) : Int); split <;> omega
  | cons x xs ih =>
    intro K k h0 _
    rw [pau, List.length_cons]
    by_cases q : ltr x ≠ -1 ∧ (K.length : Int) < 20
    · rw [if_pos q]; have := ih (K ++ [ltr x]) (k + 1) (by omega) (fun _ => trivial); omega
    · rw [if_neg q]; show -1 ≤ k ∧ k ≤ _; omega
theorem aut_r : ∀ (xs : List Int) (due l : Int) (c : Int → List Int) (k : Int), 0 ≤ k → (0 ≤ k → True) → -1 ≤ (aut xs due l c k).1 ∧ (aut xs due l c k).1 ≤ k + xs.length := by
  intro xs
  induction xs with
  | nil => intro due l c k h0 _; show -1 ≤ (if due = 2 ∧ 0 < ((c l).length : Int) then (-1 : Int) else k) ∧ (if due = 2 ∧ 0 < ((c l).length : Int) then (-1 : Int) else k) ≤ k + ((0 : Nat) : Int); split <;> omega
  | cons x xs ih =>
    intro due l c k h0 _
    rw [aut, List.length_cons]
    split
    · have := ih 1 (ltr x) (zU c (ltr x) []) (k + 1) (by omega) (fun _ => trivial); omega
    · split
      · have := ih 2 l c (k + 1) (by omega) (fun _ => trivial); omega
      · split
        · have := ih 0 l c (k + 1) (by omega) (fun _ => trivial); omega
        · split
          · have := ih 2 l (zU c l (c l ++ [ltr x])) (k + 1) (by omega) (fun _ => trivial); omega
          · show -1 ≤ k ∧ k ≤ _; omega
