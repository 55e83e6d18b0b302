def q_MO_sum (D : GG) (m : Nat) (kp : Int) (fl : Int) (fo : Int) (di : Int) (ty : Int) (az : Int) (C : Int → Int) (c : Int → List Int) (n : Nat) (a : Int) : Option Value → Heap → Prop := fun v0 H => v0 = some (zV (sat (su (tN c a n))))
theorem yv_MO_sum : Yv y_MO_sum b_MO_sum 3 (Option.some FieldType.int) 1 := ⟨g_962, g_65, by decide, by decide +kernel⟩
set_option maxHeartbeats 4000000 in
set_option maxRecDepth 100000 in
theorem c_MO_sum (l0 : Launch) (D : GG) (m : Nat) (kp : Int) (fl : Int) (fo : Int) (di : Int) (ty : Int) (az : Int) (C : Int → Int) (c : Int → List Int) (n : Nat) (a : Int) (hq : cqR C c n) (ha : 0 ≤ a ∧ a < 4) : Ct l0 D y_MO_sum b_MO_sum 3 (Option.some FieldType.int) ({ frames := 0, cells := 0, slots := 0, locals := 0 } : Room) [.ref m, zV a] (fun H => At D H m (oO 11 [.ref (m + 1), .ref (m + 2), zV kp, .ref (m + 3), zV fl, .ref (m + 4), .ref (m + 5), .ref (m + 6), zV fo, .ref (m + 7), zV di, zV ty, .ref (m + 8), zV az, .ref (m + 9), .ref (m + 10), .ref (m + 11)]) ∧ At D H (m + 9) (oI D 16 C)) nA 0 0 (q_MO_sum D m kp fl fo di ty az C c n a) := by
  refine Ct.of (L := [(0, .ref m), (1, zV a)]) (by decide) (Nat.le_of_ble_eq_true rfl) rfl (fun M H ho hr hnm hH hpre => ?_)
  obtain ⟨t_o, t_c⟩ := hpre
  have p_0 := sat_r (tN_0 c a n 0)
  have p_1 := sat_r (tN_0 c a n 1)
  have p_2 := sat_r (tN_0 c a n 2)
  have p_3 := sat_r (tN_0 c a n 3)
  have p_4 := sat_4 (t := tN c a n) (fun j => tN_0 c a n j)
  refine x_aload_n ho 0 d_MO_sum_0 rfl ?_
  refine x_get 14 ho d_MO_sum_1 cl_MO (by decide) g_771 t_o rfl ?_
  refine x_iconst ho d_MO_sum_4 ?_
  refine x_iload_n ho 1 d_MO_sum_5 rfl ?_
  refine x_imul ho d_MO_sum_6 ?_
  refine x_iald ho d_MO_sum_7 t_c (by omega) (by omega) (by omega) ?_
  refine x_eqI (b := sat (tN c a n 0)) (by exact cq_at hq ha (by omega) (by omega)) ?_
  refine x_aload_n ho 0 d_MO_sum_8 rfl ?_
  refine x_get 14 ho d_MO_sum_9 cl_MO (by decide) g_771 t_o rfl ?_
  refine x_iconst ho d_MO_sum_12 ?_
  refine x_iload_n ho 1 d_MO_sum_13 rfl ?_
  refine x_imul ho d_MO_sum_14 ?_
  refine x_iconst ho d_MO_sum_15 ?_
  refine x_iadd ho d_MO_sum_16 ?_
  refine x_iald ho d_MO_sum_17 t_c (by omega) (by omega) (by omega) ?_
  refine x_eqI (b := sat (tN c a n 1)) (by exact cq_at hq ha (by omega) (by omega)) ?_
  refine x_iadd ho d_MO_sum_18 ?_
  refine x_aload_n ho 0 d_MO_sum_19 rfl ?_
  refine x_get 14 ho d_MO_sum_20 cl_MO (by decide) g_771 t_o rfl ?_
  refine x_iconst ho d_MO_sum_23 ?_
  refine x_iload_n ho 1 d_MO_sum_24 rfl ?_
  refine x_imul ho d_MO_sum_25 ?_
  refine x_iconst ho d_MO_sum_26 ?_
  refine x_iadd ho d_MO_sum_27 ?_
  refine x_iald ho d_MO_sum_28 t_c (by omega) (by omega) (by omega) ?_
  refine x_eqI (b := sat (tN c a n 2)) (by exact cq_at hq ha (by omega) (by omega)) ?_
  refine x_iadd ho d_MO_sum_29 ?_
  refine x_aload_n ho 0 d_MO_sum_30 rfl ?_
  refine x_get 14 ho d_MO_sum_31 cl_MO (by decide) g_771 t_o rfl ?_
  refine x_iconst ho d_MO_sum_34 ?_
  refine x_iload_n ho 1 d_MO_sum_35 rfl ?_
  refine x_imul ho d_MO_sum_36 ?_
  refine x_iconst ho d_MO_sum_37 ?_
  refine x_iadd ho d_MO_sum_38 ?_
  refine x_iald ho d_MO_sum_39 t_c (by omega) (by omega) (by omega) ?_
  refine x_eqI (b := sat (tN c a n 3)) (by exact cq_at hq ha (by omega) (by omega)) ?_
  refine x_iadd ho d_MO_sum_40 ?_
  refine x_istore_n (L' := [(2, zV ((((sat (tN c a n 0)) + (sat (tN c a n 1))) + (sat (tN c a n 2))) + (sat (tN c a n 3)))), (0, .ref m), (1, zV a)]) ho d_MO_sum_41 (by decide) rfl ?_
  refine x_iload_n ho 0 d_MO_sum_42 rfl ?_
  refine x_ldc (z := 1000000) ho d_MO_sum_43 g_958 (by decide) ?_
  refine x_icmp_le (tgt := 53) ho d_MO_sum_45 (by decide) (by omega) (by omega) (fun c_45 => ?_) (fun c_45 => ?_)
  ·
    refine x_iload_n ho 0 d_MO_sum_53 rfl ?_
    refine x_iret ho hr d_MO_sum_54 ?_
    exact rI (by rw [← p_4]; exact (sat_lo (by omega)).symm)
  ·
    refine x_ldc (z := 1000001) ho d_MO_sum_48 g_959 (by decide) ?_
    refine x_goto (tgt := 54) ho d_MO_sum_50 (by decide) ?_
    refine x_iret ho hr d_MO_sum_54 ?_
    exact rI (by rw [← p_4]; exact (sat_hi (by omega)).symm)
def q_MO_images (D : GG) (m : Nat) (kp : Int) (fl : Int) (fo : Int) (di : Int) (ty : Int) (az : Int) (v : SV) (C0 : Int → Int) (E0 : Int → Int) (i : Int) : Option Value → Heap → Prop := fun v0 H => ∃ (c1 : Int → Int) (e1 : Int → Int), v0 = none ∧ cqR c1 v.1 i.toNat ∧ At D H m (oO 11 [.ref (m + 1), .ref (m + 2), zV kp, .ref (m + 3), zV fl, .ref (m + 4), .ref (m + 5), .ref (m + 6), zV fo, .ref (m + 7), zV di, zV ty, .ref (m + 8), zV az, .ref (m + 9), .ref (m + 10), .ref (m + 11)]) ∧ isN D H (m + 1) v ∧ At D H (m + 9) (oI D 16 c1) ∧ At D H (m + 10) (oI D 16 e1)
theorem yv_MO_images : Yv y_MO_images b_MO_images 6 (Option.none : Option FieldType) 1 := ⟨g_957, g_65, by decide, by decide +kernel⟩
set_option maxHeartbeats 4000000 in
set_option maxRecDepth 100000 in
theorem c_MO_images (l0 : Launch) (D : GG) (m : Nat) (kp : Int) (fl : Int) (fo : Int) (di : Int) (ty : Int) (az : Int) (v : SV) (C0 : Int → Int) (E0 : Int → Int) (i : Int) (hi : 0 ≤ i ∧ i ≤ 30) : Ct l0 D y_MO_images b_MO_images 6 (Option.none : Option FieldType) ({ frames := 1, cells := 0, slots := 0, locals := 22 } : Room) [.ref m, zV i] (fun H => At D H m (oO 11 [.ref (m + 1), .ref (m + 2), zV kp, .ref (m + 3), zV fl, .ref (m + 4), .ref (m + 5), .ref (m + 6), zV fo, .ref (m + 7), zV di, zV ty, .ref (m + 8), zV az, .ref (m + 9), .ref (m + 10), .ref (m + 11)]) ∧ isN D H (m + 1) v ∧ At D H (m + 9) (oI D 16 C0) ∧ At D H (m + 10) (oI D 16 E0)) (rA (m + 9) (m + 11)) 0 0 (q_MO_images D m kp fl fo di ty az v C0 E0 i) := by
  refine Ct.of (L := [(0, .ref m), (1, zV i)]) (by decide) (Nat.le_of_ble_eq_true rfl) rfl (fun M H ho hr hnm hH hpre => ?_)
  obtain ⟨t_o, t_n, t_c, t_e⟩ := hpre
  have n_o := t_n.ok
  have n_1 := n_o.1
  refine x_iconst ho d_MO_images_0 ?_
  refine x_istore_n (L' := [(2, zV 0), (0, .ref m), (1, zV i)]) ho d_MO_images_1 (by decide) rfl ?_
  have loop_2 : ∀ (kk : Nat) (x : Int) (C : Int → Int) (H_1 : Heap) (l_o : At D H_1 m (oO 11 [.ref (m + 1), .ref (m + 2), zV kp, .ref (m + 3), zV fl, .ref (m + 4), .ref (m + 5), .ref (m + 6), zV fo, .ref (m + 7), zV di, zV ty, .ref (m + 8), zV az, .ref (m + 9), .ref (m + 10), .ref (m + 11)])) (l_n : isN D H_1 (m + 1) v) (l_c : At D H_1 (m + 9) (oI D 16 C)) (l_e : At D H_1 (m + 10) (oI D 16 E0)) (x0 : 0 ≤ x ∧ x ≤ 16) (hC : ∀ q : Int, 0 ≤ q → q < x → C q = if q % 5 = 0 then 1 else 0), (16 - x).toNat < kk → X M ({ frames := 1, cells := 0, slots := 0, locals := 22 } : Room) 6 (rA (m + 9) (m + 11)) 0 0 (Qof M (rA (m + 9) (m + 11)) (q_MO_images D m kp fl fo di ty az v C0 E0 i) 0 0) 2 [(2, zV x), (0, .ref m), (1, zV i)] [] H_1 := by
    intro kk
    induction kk with
    | zero => intro x C H_1 l_o l_n l_c l_e x0 hC hk; exact absurd hk (Nat.not_lt_zero _)
    | succ kk ih_2 =>
      intro x C H_1 l_o l_n l_c l_e x0 hC hk_2
      refine x_iload_n ho 0 d_MO_images_2 rfl ?_
      refine x_bipush (z := 16) ho d_MO_images_3 (by decide) ?_
      refine x_icmp_ge (tgt := 31) ho d_MO_images_5 (by decide) (by omega) (by omega) (fun c_5 => ?_) (fun c_5 => ?_)
      ·
        refine x_iconst ho d_MO_images_31 ?_
        refine x_istore_n (L' := [(2, zV 0), (0, .ref m), (1, zV i)]) ho d_MO_images_32 (by decide) rfl ?_
        have loop_33 : ∀ (kk : Nat) (n : Int) (C : Int → Int) (E : Int → Int) (H_2 : Heap) (l_o : At D H_2 m (oO 11 [.ref (m + 1), .ref (m + 2), zV kp, .ref (m + 3), zV fl, .ref (m + 4), .ref (m + 5), .ref (m + 6), zV fo, .ref (m + 7), zV di, zV ty, .ref (m + 8), zV az, .ref (m + 9), .ref (m + 10), .ref (m + 11)])) (l_n : isN D H_2 (m + 1) v) (l_c : At D H_2 (m + 9) (oI D 16 C)) (l_e : At D H_2 (m + 10) (oI D 16 E)) (n0 : 0 ≤ n ∧ n ≤ i) (hq : cqR C v.1 n.toNat), (i - n).toNat < kk → X M ({ frames := 1, cells := 0, slots := 0, locals := 22 } : Room) 6 (rA (m + 9) (m + 11)) 0 0 (Qof M (rA (m + 9) (m + 11)) (q_MO_images D m kp fl fo di ty az v C0 E0 i) 0 0) 33 [(2, zV n), (0, .ref m), (1, zV i)] [] H_2 := by
          intro kk
          induction kk with
          | zero => intro n C E H_2 l_o l_n l_c l_e n0 hq hk; exact absurd hk (Nat.not_lt_zero _)
          | succ kk ih_33 =>
            intro n C E H_2 l_o l_n l_c l_e n0 hq hk_33
            refine x_iload_n ho 0 d_MO_images_33 rfl ?_
            refine x_iload_n ho 2 d_MO_images_34 rfl ?_
            refine x_icmp_ge (tgt := 153) ho d_MO_images_35 (by decide) (by omega) (by omega) (fun c_35 => ?_) (fun c_35 => ?_)
            ·
              refine x_vret ho hr d_MO_images_153 ?_
              rw [show n = i by omega] at hq
              exact ⟨_, _, rfl, hq, l_o, l_n, l_c, l_e⟩
            ·
              refine x_iconst ho d_MO_images_38 ?_
              refine x_istore_n (L' := [(3, zV 0), (2, zV n), (0, .ref m), (1, zV i)]) ho d_MO_images_39 (by decide) rfl ?_
              have loop_40 : ∀ (kk : Nat) (x : Int) (E : Int → Int) (H_3 : Heap) (l_o : At D H_3 m (oO 11 [.ref (m + 1), .ref (m + 2), zV kp, .ref (m + 3), zV fl, .ref (m + 4), .ref (m + 5), .ref (m + 6), zV fo, .ref (m + 7), zV di, zV ty, .ref (m + 8), zV az, .ref (m + 9), .ref (m + 10), .ref (m + 11)])) (l_n : isN D H_3 (m + 1) v) (l_c : At D H_3 (m + 9) (oI D 16 C)) (l_e : At D H_3 (m + 10) (oI D 16 E)) (x0 : 0 ≤ x ∧ x ≤ 16) (hE : ∀ q : Int, 0 ≤ q → q < x → E q = sat (tN v.1 (q / 4) (n.toNat + 1) (q % 4))), (16 - x).toNat < kk → X M ({ frames := 1, cells := 0, slots := 0, locals := 22 } : Room) 6 (rA (m + 9) (m + 11)) 0 0 (Qof M (rA (m + 9) (m + 11)) (q_MO_images D m kp fl fo di ty az v C0 E0 i) 0 0) 40 [(3, zV x), (2, zV n), (0, .ref m), (1, zV i)] [] H_3 := by
                intro kk
                induction kk with
                | zero => intro x E H_3 l_o l_n l_c l_e x0 hE hk; exact absurd hk (Nat.not_lt_zero _)
                | succ kk ih_40 =>
                  intro x E H_3 l_o l_n l_c l_e x0 hE hk_40
                  refine x_iload_n ho 0 d_MO_images_40 rfl ?_
                  refine x_bipush (z := 16) ho d_MO_images_41 (by decide) ?_
                  refine x_icmp_ge (tgt := 121) ho d_MO_images_43 (by decide) (by omega) (by omega) (fun c_43 => ?_) (fun c_43 => ?_)
                  ·
                    refine x_iconst ho d_MO_images_121 ?_
                    refine x_istore_n (L' := [(3, zV 0), (2, zV n), (0, .ref m), (1, zV i)]) ho d_MO_images_122 (by decide) rfl ?_
                    have loop_123 : ∀ (kk : Nat) (y : Int) (H_4 : Heap) (l_o : At D H_4 m (oO 11 [.ref (m + 1), .ref (m + 2), zV kp, .ref (m + 3), zV fl, .ref (m + 4), .ref (m + 5), .ref (m + 6), zV fo, .ref (m + 7), zV di, zV ty, .ref (m + 8), zV az, .ref (m + 9), .ref (m + 10), .ref (m + 11)])) (l_n : isN D H_4 (m + 1) v) (l_c : At D H_4 (m + 9) (oI D 16 (zC E C 0 0 y))) (l_e : At D H_4 (m + 10) (oI D 16 E)) (y0 : 0 ≤ y ∧ y ≤ 16), (16 - y).toNat < kk → X M ({ frames := 1, cells := 0, slots := 0, locals := 22 } : Room) 6 (rA (m + 9) (m + 11)) 0 0 (Qof M (rA (m + 9) (m + 11)) (q_MO_images D m kp fl fo di ty az v C0 E0 i) 0 0) 123 [(3, zV y), (2, zV n), (0, .ref m), (1, zV i)] [] H_4 := by
                      intro kk
                      induction kk with
                      | zero => intro y H_4 l_o l_n l_c l_e y0 hk; exact absurd hk (Nat.not_lt_zero _)
                      | succ kk ih_123 =>
                        intro y H_4 l_o l_n l_c l_e y0 hk_123
                        refine x_iload_n ho 0 d_MO_images_123 rfl ?_
                        refine x_bipush (z := 16) ho d_MO_images_124 (by decide) ?_
                        refine x_icmp_ge (tgt := 147) ho d_MO_images_126 (by decide) (by omega) (by omega) (fun c_126 => ?_) (fun c_126 => ?_)
                        ·
                          refine x_iinc (L' := [(2, zV (n + 1)), (3, zV y), (0, .ref m), (1, zV i)]) ho 1 d_MO_images_147 rfl rfl (by decide) rfl ?_
                          refine x_goto (tgt := 33) ho d_MO_images_150 (by decide) ?_
                          refine x_sub (L' := [(2, zV (n + 1)), (0, .ref m), (1, zV i)]) [0, 2, 3] rfl ?_
                          exact ih_33 (n + 1) (zC E C 0 0 y) E H_4 l_o l_n l_c l_e (by omega) (by intro q a b; rw [zC_i (i := q) (by omega) (by omega), hE q a (by omega), show (n + 1).toNat = n.toNat + 1 by omega]) (by omega)
                        ·
                          refine x_aload_n ho 2 d_MO_images_129 rfl ?_
                          refine x_get 14 ho d_MO_images_130 cl_MO (by decide) g_771 l_o rfl ?_
                          refine x_iload_n ho 0 d_MO_images_133 rfl ?_
                          refine x_aload_n ho 2 d_MO_images_134 rfl ?_
                          refine x_get 15 ho d_MO_images_135 cl_MO (by decide) g_772 l_o rfl ?_
                          refine x_iload_n ho 0 d_MO_images_138 rfl ?_
                          refine x_iald ho d_MO_images_139 l_e (by omega) (by omega) (by omega) ?_
                          refine x_iast ho d_MO_images_140 l_c (by omega) (by omega) (by omega) (rA_in (by omega) (by omega)) (fun H_5 p_6 z_7 q_8 => ?_)
                          have k_9 := l_o.kept (q_8 _ (by omega))
                          have k_10 := l_n.kept (q_8 _ (by omega))
                          have k_11 := l_e.kept (q_8 _ (by omega))
                          refine x_iinc (L' := [(3, zV (y + 1)), (2, zV n), (0, .ref m), (1, zV i)]) ho 0 d_MO_images_141 rfl rfl (by decide) rfl ?_
                          refine x_goto (tgt := 123) ho d_MO_images_144 (by decide) ?_
                          exact ih_123 (y + 1) H_5 k_9 k_10 (zC_at p_6 (by omega) (by omega) (by first | rfl | (congr 1; omega))) k_11 (by omega) (by omega)
                    exact loop_123 _ 0 H_3 l_o l_n (by rw [zC_0]; exact l_c) l_e (by omega) (Nat.lt_succ_self _)
                  ·
                    refine x_iconst ho d_MO_images_46 ?_
                    refine x_istore (L' := [(4, zV 0), (3, zV x), (2, zV n), (0, .ref m), (1, zV i)]) ho d_MO_images_47 (by decide) rfl ?_
                    refine x_iconst ho d_MO_images_49 ?_
                    refine x_istore (L' := [(5, zV 0), (4, zV 0), (3, zV x), (2, zV n), (0, .ref m), (1, zV i)]) ho d_MO_images_50 (by decide) rfl ?_
                    have loop_52 : ∀ (kk : Nat) (k : Int) (s : Int) (k0 : 0 ≤ k ∧ k ≤ ((v.1 (x / 4)).length : Int)) (s0 : 0 ≤ s ∧ s ≤ 1000001 * k) (hs : s = slF (fun y => C (4 * y + x % 4)) (tk (v.1 (x / 4)) k)), (((v.1 (x / 4)).length : Int) - k).toNat < kk → X M ({ frames := 1, cells := 0, slots := 0, locals := 22 } : Room) 6 (rA (m + 9) (m + 11)) 0 0 (Qof M (rA (m + 9) (m + 11)) (q_MO_images D m kp fl fo di ty az v C0 E0 i) 0 0) 52 [(5, zV k), (4, zV s), (3, zV x), (2, zV n), (0, .ref m), (1, zV i)] [] H_3 := by
                      intro kk
                      induction kk with
                      | zero => intro k s k0 s0 hs hk; exact absurd hk (Nat.not_lt_zero _)
                      | succ kk ih_52 =>
                        intro k s k0 s0 hs hk_52
                        refine x_iload ho 0 d_MO_images_52 rfl ?_
                        have hsz := n_1 (x / 4) (by omega) (by omega)
                        refine x_aload_n ho 4 d_MO_images_54 rfl ?_
                        refine x_iload_n ho 2 d_MO_images_55 rfl ?_
                        refine x_iconst ho d_MO_images_56 ?_
                        refine x_idiv ho d_MO_images_57 (by omega) (by omega) ?_
                        refine x_callV (rest := [zV k]) ho d_MO_images_58 yv_MO_size g_829 g_26 g_828 (c_MO_size M.2.1 D m kp fl fo di ty az v (x / 4) (by omega)) rfl rfl ⟨Nat.le_of_ble_eq_true rfl, Nat.le_of_ble_eq_true rfl⟩ ⟨Nat.le_of_ble_eq_true rfl, Nat.le_of_ble_eq_true rfl⟩ rfl rfl (Nat.le_of_ble_eq_true rfl) l_o rfl rfl ⟨l_o, l_n⟩ fr_none' (x_rd (fun v_12 hv_12 => ?_))
                        obtain ⟨rfl, sb_14⟩ := hv_12
                        show X _ _ _ _ _ _ _ _ _ [zV (((v.1 (x / 4)).length : Int)), zV k] _
                        refine x_icmp_ge (tgt := 95) ho d_MO_images_61 (by decide) (by omega) (by omega) (fun c_61 => ?_) (fun c_61 => ?_)
                        ·
                          rw [tk_all (by omega)] at hs
                          have hnx := cq_nx hq n_1 (x := x) (s := s) (by omega) hs
                          refine x_aload_n ho 4 d_MO_images_95 rfl ?_
                          refine x_get 15 ho d_MO_images_96 cl_MO (by decide) g_772 l_o rfl ?_
                          refine x_iload_n ho 2 d_MO_images_99 rfl ?_
                          refine x_iload ho 1 d_MO_images_100 rfl ?_
                          refine x_ldc (z := 1000000) ho d_MO_images_102 g_958 (by decide) ?_
                          refine x_icmp_le (tgt := 112) ho d_MO_images_104 (by decide) (by omega) (by omega) (fun c_104 => ?_) (fun c_104 => ?_)
                          ·
                            refine x_iload ho 1 d_MO_images_112 rfl ?_
                            refine x_iast ho d_MO_images_114 l_e (by omega) (by omega) (by omega) (rA_in (by omega) (by omega)) (fun H_15 p_16 z_17 q_18 => ?_)
                            have k_19 := l_o.kept (q_18 _ (by omega))
                            have k_20 := l_n.kept (q_18 _ (by omega))
                            have k_21 := l_c.kept (q_18 _ (by omega))
                            refine x_iinc (L' := [(3, zV (x + 1)), (5, zV k), (4, zV s), (2, zV n), (0, .ref m), (1, zV i)]) ho 2 d_MO_images_115 rfl rfl (by decide) rfl ?_
                            refine x_goto (tgt := 40) ho d_MO_images_118 (by decide) ?_
                            refine x_sub (L' := [(3, zV (x + 1)), (2, zV n), (0, .ref m), (1, zV i)]) [0, 3, 4, 5] rfl ?_
                            exact ih_40 (x + 1) (zU E x s) H_15 k_19 k_20 k_21 p_16 (by omega) (by intro q a b; by_cases hj : q = x; rw [hj, zU_s, ← hnx]; exact (sat_lo (by omega)).symm; rw [zU_n _ _ hj]; exact hE q a (by omega)) (by omega)
                          ·
                            refine x_ldc (z := 1000001) ho d_MO_images_107 g_959 (by decide) ?_
                            refine x_goto (tgt := 114) ho d_MO_images_109 (by decide) ?_
                            refine x_iast ho d_MO_images_114 l_e (by omega) (by omega) (by omega) (rA_in (by omega) (by omega)) (fun H_22 p_23 z_24 q_25 => ?_)
                            have k_26 := l_o.kept (q_25 _ (by omega))
                            have k_27 := l_n.kept (q_25 _ (by omega))
                            have k_28 := l_c.kept (q_25 _ (by omega))
                            refine x_iinc (L' := [(3, zV (x + 1)), (5, zV k), (4, zV s), (2, zV n), (0, .ref m), (1, zV i)]) ho 2 d_MO_images_115 rfl rfl (by decide) rfl ?_
                            refine x_goto (tgt := 40) ho d_MO_images_118 (by decide) ?_
                            refine x_sub (L' := [(3, zV (x + 1)), (2, zV n), (0, .ref m), (1, zV i)]) [0, 3, 4, 5] rfl ?_
                            exact ih_40 (x + 1) (zU E x 1000001) H_22 k_26 k_27 k_28 p_23 (by omega) (by intro q a b; by_cases hj : q = x; rw [hj, zU_s, ← hnx]; exact (sat_hi (by omega)).symm; rw [zU_n _ _ hj]; exact hE q a (by omega)) (by omega)
                        ·
                          have hgr := gA_r hsz.2.2 k
                          have hcr := cq_r hq (q := 4 * gA (v.1 (x / 4)) k + x % 4) (by omega) (by omega)
                          refine x_iload ho 1 d_MO_images_64 rfl ?_
                          refine x_aload_n ho 4 d_MO_images_66 rfl ?_
                          refine x_get 14 ho d_MO_images_67 cl_MO (by decide) g_771 l_o rfl ?_
                          refine x_iconst ho d_MO_images_70 ?_
                          refine x_aload_n ho 4 d_MO_images_71 rfl ?_
                          refine x_iload_n ho 2 d_MO_images_72 rfl ?_
                          refine x_iconst ho d_MO_images_73 ?_
                          refine x_idiv ho d_MO_images_74 (by omega) (by omega) ?_
                          refine x_iload ho 0 d_MO_images_75 rfl ?_
                          refine x_callV (rest := [zV 4, .ref (m + 9), zV s]) ho d_MO_images_77 yv_MO_sign g_832 g_27 g_831 (c_MO_sign M.2.1 D m kp fl fo di ty az v (x / 4) k (by omega) (by omega)) rfl rfl ⟨Nat.le_of_ble_eq_true rfl, Nat.le_of_ble_eq_true rfl⟩ ⟨Nat.le_of_ble_eq_true rfl, Nat.le_of_ble_eq_true rfl⟩ rfl rfl (Nat.le_of_ble_eq_true rfl) l_o rfl rfl ⟨l_o, l_n⟩ fr_none' (x_rd (fun v_29 hv_29 => ?_))
                          obtain ⟨rfl, gb_31⟩ := hv_29
                          show X _ _ _ _ _ _ _ _ _ [zV (gA (v.1 (x / 4)) k), zV 4, .ref (m + 9), zV s] _
                          refine x_imul ho d_MO_images_80 ?_
                          refine x_iload_n ho 2 d_MO_images_81 rfl ?_
                          refine x_iconst ho d_MO_images_82 ?_
                          refine x_irem ho d_MO_images_83 (by omega) (by omega) ?_
                          refine x_iadd ho d_MO_images_84 ?_
                          refine x_iald ho d_MO_images_85 l_c (by omega) (by omega) (by omega) ?_
                          refine x_iadd ho d_MO_images_86 ?_
                          refine x_istore (L' := [(4, zV (s + (C ((4 * (gA (v.1 (x / 4)) k)) + (x % 4))))), (5, zV k), (3, zV x), (2, zV n), (0, .ref m), (1, zV i)]) ho d_MO_images_87 (by decide) rfl ?_
                          refine x_iinc (L' := [(5, zV (k + 1)), (4, zV (s + (C ((4 * (gA (v.1 (x / 4)) k)) + (x % 4))))), (3, zV x), (2, zV n), (0, .ref m), (1, zV i)]) ho 1 d_MO_images_89 rfl rfl (by decide) rfl ?_
                          refine x_goto (tgt := 52) ho d_MO_images_92 (by decide) ?_
                          exact ih_52 (k + 1) (s + (C ((4 * (gA (v.1 (x / 4)) k)) + (x % 4)))) (by omega) (by omega) (by rw [slF_nx (by omega) (by omega), hs]) (by omega)
                    exact loop_52 _ 0 0 (by omega) (by omega) (by rw [tk_0]; rfl) (Nat.lt_succ_self _)
              exact loop_40 _ 0 E H_2 l_o l_n l_c l_e (by omega) (by exact fun q a b => by omega) (Nat.lt_succ_self _)
        exact loop_33 _ 0 C E0 H_1 l_o l_n l_c l_e (by omega) (by exact cq_0 (fun q a b => hC q a (by omega))) (Nat.lt_succ_self _)
      ·
        refine x_aload_n ho 1 d_MO_images_8 rfl ?_
        refine x_get 14 ho d_MO_images_9 cl_MO (by decide) g_771 l_o rfl ?_
        refine x_iload_n ho 0 d_MO_images_12 rfl ?_
        refine x_iload_n ho 0 d_MO_images_13 rfl ?_
        refine x_iconst ho d_MO_images_14 ?_
        refine x_irem ho d_MO_images_15 (by omega) (by omega) ?_
        refine x_if_ne (tgt := 23) ho d_MO_images_16 (by decide) (by omega) (fun c_16 => ?_) (fun c_16 => ?_)
        ·
          refine x_iconst ho d_MO_images_23 ?_
          refine x_iast ho d_MO_images_24 l_c (by omega) (by omega) (by omega) (rA_in (by omega) (by omega)) (fun H_32 p_33 z_34 q_35 => ?_)
          have k_36 := l_o.kept (q_35 _ (by omega))
          have k_37 := l_n.kept (q_35 _ (by omega))
          have k_38 := l_e.kept (q_35 _ (by omega))
          refine x_iinc (L' := [(2, zV (x + 1)), (0, .ref m), (1, zV i)]) ho 0 d_MO_images_25 rfl rfl (by decide) rfl ?_
          refine x_goto (tgt := 2) ho d_MO_images_28 (by decide) ?_
          exact ih_2 (x + 1) (zU C x 0) H_32 k_36 k_37 p_33 k_38 (by omega) (by intro q a b; by_cases hj : q = x; rw [hj, zU_s, if_neg c_16]; rw [zU_n _ _ hj]; exact hC q a (by omega)) (by omega)
        ·
          refine x_iconst ho d_MO_images_19 ?_
          refine x_goto (tgt := 24) ho d_MO_images_20 (by decide) ?_
          refine x_iast ho d_MO_images_24 l_c (by omega) (by omega) (by omega) (rA_in (by omega) (by omega)) (fun H_39 p_40 z_41 q_42 => ?_)
          have k_43 := l_o.kept (q_42 _ (by omega))
          have k_44 := l_n.kept (q_42 _ (by omega))
          have k_45 := l_e.kept (q_42 _ (by omega))
          refine x_iinc (L' := [(2, zV (x + 1)), (0, .ref m), (1, zV i)]) ho 0 d_MO_images_25 rfl rfl (by decide) rfl ?_
          refine x_goto (tgt := 2) ho d_MO_images_28 (by decide) ?_
          exact ih_2 (x + 1) (zU C x 1) H_39 k_43 k_44 p_40 k_45 (by omega) (by intro q a b; by_cases hj : q = x; rw [hj, zU_s, if_pos c_16]; rw [zU_n _ _ hj]; exact hC q a (by omega)) (by omega)
  exact loop_2 _ 0 C0 H t_o t_n t_c t_e (by omega) (by exact fun q a b => by omega) (Nat.lt_succ_self _)
def q_MO_lengthBehind (D : GG) (m : Nat) (V : WV) (z1 : Int) (z2 : Int) : Option Value → Heap → Prop := fun v0 H => v0 = some (zV (r_lengthBehind z1 z2 V)) ∧ isO D H m V
theorem yv_MO_lengthBehind : Yv y_MO_lengthBehind b_MO_lengthBehind 3 (Option.some FieldType.int) 2 := ⟨g_954, g_65, by decide, by decide +kernel⟩
set_option maxHeartbeats 4000000 in
set_option maxRecDepth 100000 in
theorem c_MO_lengthBehind (l0 : Launch) (D : GG) (m : Nat) (V : WV) (z1 : Int) (z2 : Int) (hz1 : -2147483648 ≤ z1 ∧ z1 ≤ 2147483647) (hz2 : -2147483648 ≤ z2 ∧ z2 ≤ 2147483647) : Ct l0 D y_MO_lengthBehind b_MO_lengthBehind 3 (Option.some FieldType.int) ({ frames := 2, cells := 0, slots := 0, locals := 47 } : Room) [.ref m, zV z1, zV z2] (fun H => isO D H m V) (rA m (m + 12)) 0 0 (q_MO_lengthBehind D m V z1 z2) := by
  refine Ct.of (L := [(0, .ref m), (1, zV z1), (2, zV z2)]) (by decide) (Nat.le_of_ble_eq_true rfl) rfl (fun M H ho hr hnm hH hpre => ?_)
  have hW := hpre
  obtain ⟨o_fo, o_di, o_az, o_t, o_b, o_p, o_u, o_c, o_e, o_y, a_o, a_n, a_h, a_s, a_t, a_b, a_p, a_u, a_x, a_c, a_e, a_y, a_k⟩ := id hW
  have n_o := a_n.ok
  have n_1 := n_o.1
  have n_2 := n_o.2.1
  have n_3 := n_o.2.2
  have h_b := a_h.b
  refine x_iload_n ho 1 d_MO_lengthBehind_0 rfl ?_
  refine x_callS (rest := []) ho d_MO_lengthBehind_1 yv_MO_no g_856 g_855 (c_MO_no M.2.1 D z1 (by omega)) rfl rfl ⟨Nat.le_of_ble_eq_true rfl, Nat.le_of_ble_eq_true rfl⟩ ⟨Nat.le_of_ble_eq_true rfl, Nat.le_of_ble_eq_true rfl⟩ rfl rfl (Nat.le_of_ble_eq_true rfl) trivial fr_none' (x_rd (fun v_1 hv_1 => ?_))
  obtain rfl := hv_1
  show X _ _ _ _ _ _ _ _ _ [zV (bI (¬ isA z1))] _
  refine x_if_eqB (tgt := 9) ho d_MO_lengthBehind_4 (by decide) (fun c_4 => ?_) (fun c_4 => ?_)
  ·
    have z_4 : isA z1 := Classical.not_not.mp c_4
    refine x_iload_n ho 2 d_MO_lengthBehind_9 rfl ?_
    refine x_iconst ho d_MO_lengthBehind_10 ?_
    refine x_bipush (z := 30) ho d_MO_lengthBehind_11 (by decide) ?_
    refine x_callS (rest := []) ho d_MO_lengthBehind_13 yv_MO_in g_823 g_822 (c_MO_in M.2.1 D z2 0 30 (by omega) (by omega) (by omega)) rfl rfl ⟨Nat.le_of_ble_eq_true rfl, Nat.le_of_ble_eq_true rfl⟩ ⟨Nat.le_of_ble_eq_true rfl, Nat.le_of_ble_eq_true rfl⟩ rfl rfl (Nat.le_of_ble_eq_true rfl) trivial fr_none' (x_rd (fun v_3 hv_3 => ?_))
    obtain rfl := hv_3
    show X _ _ _ _ _ _ _ _ _ [zV (bI (0 ≤ z2 ∧ z2 ≤ 30))] _
    refine x_if_neB (tgt := 22) ho d_MO_lengthBehind_16 (by decide) (fun c_16 => ?_) (fun c_16 => ?_)
    ·
      refine x_aload_n ho 0 d_MO_lengthBehind_22 rfl ?_
      refine x_iload_n ho 2 d_MO_lengthBehind_23 rfl ?_
      refine x_callV (rest := []) ho d_MO_lengthBehind_24 yv_MO_images g_956 g_45 g_955 (c_MO_images M.2.1 D m ((V.2.2.2.1.length : Int)) V.2.2.1 o_fo o_di ((V.2.2.2.2.length : Int)) o_az V.1 o_c o_e z2 (by omega)) rfl rfl ⟨Nat.le_of_ble_eq_true rfl, Nat.le_of_ble_eq_true rfl⟩ ⟨Nat.le_of_ble_eq_true rfl, Nat.le_of_ble_eq_true rfl⟩ rfl rfl (Nat.le_of_ble_eq_true rfl) a_o rfl rfl ⟨a_o, a_n, a_c, a_e⟩ (rA_sub (by omega) (by omega)) (fun v_5 H_7 hv_5 f_6 => ?_)
      have k_8 := a_h.kept (f_6.2 _ a_h.lt (rA_no (by omega)))
      have k_9 := a_s.kept (f_6.2 _ a_s.lt (rA_no (by omega)))
      have k_10 := a_t.kept (f_6.2 _ a_t.lt (rA_no (by omega)))
      have k_11 := a_b.kept (f_6.2 _ a_b.lt (rA_no (by omega)))
      have k_12 := a_p.kept (f_6.2 _ a_p.lt (rA_no (by omega)))
      have k_13 := a_u.kept (f_6.2 _ a_u.lt (rA_no (by omega)))
      have k_14 := a_x.kept (f_6.2 _ a_x.lt (rA_no (by omega)))
      have k_15 := a_y.kept (f_6.2 _ a_y.lt (rA_no (by omega)))
      obtain ⟨c1_16, e1_17, rfl, hq_18, t_o_19, t_n_20, t_c_21, t_e_22⟩ := hv_5
      show X _ _ _ _ _ _ _ _ _ [] _
      have hqq := hq_18
      have hsp := su_p (t := tN V.1.1 z1 z2.toNat) (fun j => tN_0 _ _ _ j)
      have hsr := sat_r hsp
      refine x_aload_n ho 0 d_MO_lengthBehind_27 rfl ?_
      refine x_iload_n ho 1 d_MO_lengthBehind_28 rfl ?_
      refine x_callV (rest := []) ho d_MO_lengthBehind_29 yv_MO_sum g_961 g_46 g_960 (c_MO_sum M.2.1 D m ((V.2.2.2.1.length : Int)) V.2.2.1 o_fo o_di ((V.2.2.2.2.length : Int)) o_az c1_16 V.1.1 z2.toNat z1 (by exact hqq) (by omega)) rfl rfl ⟨Nat.le_of_ble_eq_true rfl, Nat.le_of_ble_eq_true rfl⟩ ⟨Nat.le_of_ble_eq_true rfl, Nat.le_of_ble_eq_true rfl⟩ rfl rfl (Nat.le_of_ble_eq_true rfl) t_o_19 rfl rfl ⟨t_o_19, t_c_21⟩ fr_none' (x_rd (fun v_23 hv_23 => ?_))
      obtain rfl := hv_23
      show X _ _ _ _ _ _ _ _ _ [zV (sat (su (tN V.1.1 z1 z2.toNat)))] _
      refine x_ldc (z := 1000000) ho d_MO_lengthBehind_32 g_958 (by decide) ?_
      refine x_icmp_le (tgt := 42) ho d_MO_lengthBehind_34 (by decide) (by omega) (by omega) (fun c_34 => ?_) (fun c_34 => ?_)
      ·
        have hlo : ¬ 1000000 < su (tN V.1.1 z1 z2.toNat) := fun q => by rw [sat_hi q] at c_34; omega
        refine x_aload_n ho 0 d_MO_lengthBehind_42 rfl ?_
        refine x_iload_n ho 1 d_MO_lengthBehind_43 rfl ?_
        refine x_callV (rest := []) ho d_MO_lengthBehind_44 yv_MO_sum g_961 g_46 g_960 (c_MO_sum M.2.1 D m ((V.2.2.2.1.length : Int)) V.2.2.1 o_fo o_di ((V.2.2.2.2.length : Int)) o_az c1_16 V.1.1 z2.toNat z1 (by exact hqq) (by omega)) rfl rfl ⟨Nat.le_of_ble_eq_true rfl, Nat.le_of_ble_eq_true rfl⟩ ⟨Nat.le_of_ble_eq_true rfl, Nat.le_of_ble_eq_true rfl⟩ rfl rfl (Nat.le_of_ble_eq_true rfl) t_o_19 rfl rfl ⟨t_o_19, t_c_21⟩ fr_none' (x_rd (fun v_25 hv_25 => ?_))
        obtain rfl := hv_25
        show X _ _ _ _ _ _ _ _ _ [zV (sat (su (tN V.1.1 z1 z2.toNat)))] _
        refine x_iret ho hr d_MO_lengthBehind_47 ?_
        exact ⟨rI (by unfold r_lengthBehind; rw [cif_t (z_4), cif_t (c_16), cif_t (by omega)]; exact sat_lo hlo), isO_mk t_o_19 t_n_20 k_8 k_9 k_10 k_11 k_12 k_13 k_14 t_c_21 t_e_22 k_15 a_k⟩
      ·
        have hlo : 1000000 < su (tN V.1.1 z1 z2.toNat) := Classical.not_not.mp fun q => by rw [sat_lo q] at c_34; omega
        refine x_bipush (z := (-3)) ho d_MO_lengthBehind_37 (by decide) ?_
        refine x_goto (tgt := 47) ho d_MO_lengthBehind_39 (by decide) ?_
        refine x_iret ho hr d_MO_lengthBehind_47 ?_
        exact ⟨rI (by unfold r_lengthBehind; rw [cif_t (z_4), cif_t (c_16), cif_f (by omega)]), isO_mk t_o_19 t_n_20 k_8 k_9 k_10 k_11 k_12 k_13 k_14 t_c_21 t_e_22 k_15 a_k⟩
    ·
      refine x_bipush (z := (-2)) ho d_MO_lengthBehind_19 (by decide) ?_
      refine x_iret ho hr d_MO_lengthBehind_21 ?_
      exact ⟨rI (by unfold r_lengthBehind; rw [cif_t (z_4), cif_f (c_16)]), isO_mk a_o a_n a_h a_s a_t a_b a_p a_u a_x a_c a_e a_y a_k⟩
  ·
    have z_4 : ¬ isA z1 := c_4
    refine x_iconst ho d_MO_lengthBehind_7 ?_
    refine x_iret ho hr d_MO_lengthBehind_8 ?_
    exact ⟨rI (by unfold r_lengthBehind; rw [cif_f (z_4)]), isO_mk a_o a_n a_h a_s a_t a_b a_p a_u a_x a_c a_e a_y a_k⟩
def q_MO_countBehind (D : GG) (m : Nat) (V : WV) (z1 : Int) (z2 : Int) (z3 : Int) : Option Value → Heap → Prop := fun v0 H => v0 = some (zV (r_countBehind z1 z2 z3 V)) ∧ isO D H m V
theorem yv_MO_countBehind : Yv y_MO_countBehind b_MO_countBehind 4 (Option.some FieldType.int) 3 := ⟨g_966, g_65, by decide, by decide +kernel⟩
set_option maxHeartbeats 4000000 in
set_option maxRecDepth 100000 in
theorem c_MO_countBehind (l0 : Launch) (D : GG) (m : Nat) (V : WV) (z1 : Int) (z2 : Int) (z3 : Int) (hz1 : -2147483648 ≤ z1 ∧ z1 ≤ 2147483647) (hz2 : -2147483648 ≤ z2 ∧ z2 ≤ 2147483647) (hz3 : -2147483648 ≤ z3 ∧ z3 ≤ 2147483647) : Ct l0 D y_MO_countBehind b_MO_countBehind 4 (Option.some FieldType.int) ({ frames := 2, cells := 0, slots := 0, locals := 47 } : Room) [.ref m, zV z1, zV z2, zV z3] (fun H => isO D H m V) (rA m (m + 12)) 0 0 (q_MO_countBehind D m V z1 z2 z3) := by
  refine Ct.of (L := [(0, .ref m), (1, zV z1), (2, zV z2), (3, zV z3)]) (by decide) (Nat.le_of_ble_eq_true rfl) rfl (fun M H ho hr hnm hH hpre => ?_)
  have hW := hpre
  obtain ⟨o_fo, o_di, o_az, o_t, o_b, o_p, o_u, o_c, o_e, o_y, a_o, a_n, a_h, a_s, a_t, a_b, a_p, a_u, a_x, a_c, a_e, a_y, a_k⟩ := id hW
  have n_o := a_n.ok
  have n_1 := n_o.1
  have n_2 := n_o.2.1
  have n_3 := n_o.2.2
  have h_b := a_h.b
  refine x_iload_n ho 1 d_MO_countBehind_0 rfl ?_
  refine x_callS (rest := []) ho d_MO_countBehind_1 yv_MO_no g_856 g_855 (c_MO_no M.2.1 D z1 (by omega)) rfl rfl ⟨Nat.le_of_ble_eq_true rfl, Nat.le_of_ble_eq_true rfl⟩ ⟨Nat.le_of_ble_eq_true rfl, Nat.le_of_ble_eq_true rfl⟩ rfl rfl (Nat.le_of_ble_eq_true rfl) trivial fr_none' (x_rd (fun v_1 hv_1 => ?_))
  obtain rfl := hv_1
  show X _ _ _ _ _ _ _ _ _ [zV (bI (¬ isA z1))] _
  refine x_if_neB (tgt := 14) ho d_MO_countBehind_4 (by decide) (fun c_4 => ?_) (fun c_4 => ?_)
  ·
    have z_4 : ¬ (isA z1 ∧ isA z2) := fun q => c_4 q.1
    refine x_iconst ho d_MO_countBehind_14 ?_
    refine x_iret ho hr d_MO_countBehind_15 ?_
    exact ⟨rI (by unfold r_countBehind; rw [cif_f (z_4)]), isO_mk a_o a_n a_h a_s a_t a_b a_p a_u a_x a_c a_e a_y a_k⟩
  ·
    refine x_iload_n ho 2 d_MO_countBehind_7 rfl ?_
    refine x_callS (rest := []) ho d_MO_countBehind_8 yv_MO_no g_856 g_855 (c_MO_no M.2.1 D z2 (by omega)) rfl rfl ⟨Nat.le_of_ble_eq_true rfl, Nat.le_of_ble_eq_true rfl⟩ ⟨Nat.le_of_ble_eq_true rfl, Nat.le_of_ble_eq_true rfl⟩ rfl rfl (Nat.le_of_ble_eq_true rfl) trivial fr_none' (x_rd (fun v_3 hv_3 => ?_))
    obtain rfl := hv_3
    show X _ _ _ _ _ _ _ _ _ [zV (bI (¬ isA z2))] _
    refine x_if_eqB (tgt := 16) ho d_MO_countBehind_11 (by decide) (fun c_11 => ?_) (fun c_11 => ?_)
    ·
      have z_4 : isA z1 ∧ isA z2 := ⟨Classical.not_not.mp c_4, Classical.not_not.mp c_11⟩
      refine x_iload_n ho 3 d_MO_countBehind_16 rfl ?_
      refine x_iconst ho d_MO_countBehind_17 ?_
      refine x_bipush (z := 30) ho d_MO_countBehind_18 (by decide) ?_
      refine x_callS (rest := []) ho d_MO_countBehind_20 yv_MO_in g_823 g_822 (c_MO_in M.2.1 D z3 0 30 (by omega) (by omega) (by omega)) rfl rfl ⟨Nat.le_of_ble_eq_true rfl, Nat.le_of_ble_eq_true rfl⟩ ⟨Nat.le_of_ble_eq_true rfl, Nat.le_of_ble_eq_true rfl⟩ rfl rfl (Nat.le_of_ble_eq_true rfl) trivial fr_none' (x_rd (fun v_5 hv_5 => ?_))
      obtain rfl := hv_5
      show X _ _ _ _ _ _ _ _ _ [zV (bI (0 ≤ z3 ∧ z3 ≤ 30))] _
      refine x_if_neB (tgt := 29) ho d_MO_countBehind_23 (by decide) (fun c_23 => ?_) (fun c_23 => ?_)
      ·
        refine x_aload_n ho 0 d_MO_countBehind_29 rfl ?_
        refine x_iload_n ho 3 d_MO_countBehind_30 rfl ?_
        refine x_callV (rest := []) ho d_MO_countBehind_31 yv_MO_images g_956 g_45 g_955 (c_MO_images M.2.1 D m ((V.2.2.2.1.length : Int)) V.2.2.1 o_fo o_di ((V.2.2.2.2.length : Int)) o_az V.1 o_c o_e z3 (by omega)) rfl rfl ⟨Nat.le_of_ble_eq_true rfl, Nat.le_of_ble_eq_true rfl⟩ ⟨Nat.le_of_ble_eq_true rfl, Nat.le_of_ble_eq_true rfl⟩ rfl rfl (Nat.le_of_ble_eq_true rfl) a_o rfl rfl ⟨a_o, a_n, a_c, a_e⟩ (rA_sub (by omega) (by omega)) (fun v_7 H_9 hv_7 f_8 => ?_)
        have k_10 := a_h.kept (f_8.2 _ a_h.lt (rA_no (by omega)))
        have k_11 := a_s.kept (f_8.2 _ a_s.lt (rA_no (by omega)))
        have k_12 := a_t.kept (f_8.2 _ a_t.lt (rA_no (by omega)))
        have k_13 := a_b.kept (f_8.2 _ a_b.lt (rA_no (by omega)))
        have k_14 := a_p.kept (f_8.2 _ a_p.lt (rA_no (by omega)))
        have k_15 := a_u.kept (f_8.2 _ a_u.lt (rA_no (by omega)))
        have k_16 := a_x.kept (f_8.2 _ a_x.lt (rA_no (by omega)))
        have k_17 := a_y.kept (f_8.2 _ a_y.lt (rA_no (by omega)))
        obtain ⟨c1_18, e1_19, rfl, hq_20, t_o_21, t_n_22, t_c_23, t_e_24⟩ := hv_7
        show X _ _ _ _ _ _ _ _ _ [] _
        have hqq := hq_20
        have hsp := su_p (t := tN V.1.1 z1 z3.toNat) (fun j => tN_0 _ _ _ j)
        have hsr := sat_r hsp
        have hsg := su_ge (t := tN V.1.1 z1 z3.toNat) (fun j => tN_0 _ _ _ j) z_4.2.1 z_4.2.2
        refine x_aload_n ho 0 d_MO_countBehind_34 rfl ?_
        refine x_iload_n ho 1 d_MO_countBehind_35 rfl ?_
        refine x_callV (rest := []) ho d_MO_countBehind_36 yv_MO_sum g_961 g_46 g_960 (c_MO_sum M.2.1 D m ((V.2.2.2.1.length : Int)) V.2.2.1 o_fo o_di ((V.2.2.2.2.length : Int)) o_az c1_18 V.1.1 z3.toNat z1 (by exact hqq) (by omega)) rfl rfl ⟨Nat.le_of_ble_eq_true rfl, Nat.le_of_ble_eq_true rfl⟩ ⟨Nat.le_of_ble_eq_true rfl, Nat.le_of_ble_eq_true rfl⟩ rfl rfl (Nat.le_of_ble_eq_true rfl) t_o_21 rfl rfl ⟨t_o_21, t_c_23⟩ fr_none' (x_rd (fun v_25 hv_25 => ?_))
        obtain rfl := hv_25
        show X _ _ _ _ _ _ _ _ _ [zV (sat (su (tN V.1.1 z1 z3.toNat)))] _
        refine x_ldc (z := 1000000) ho d_MO_countBehind_39 g_958 (by decide) ?_
        refine x_icmp_le (tgt := 49) ho d_MO_countBehind_41 (by decide) (by omega) (by omega) (fun c_41 => ?_) (fun c_41 => ?_)
        ·
          have hlo : ¬ 1000000 < su (tN V.1.1 z1 z3.toNat) := fun q => by rw [sat_hi q] at c_41; omega
          refine x_aload_n ho 0 d_MO_countBehind_49 rfl ?_
          refine x_get 14 ho d_MO_countBehind_50 cl_MO (by decide) g_771 t_o_21 rfl ?_
          refine x_iconst ho d_MO_countBehind_53 ?_
          refine x_iload_n ho 1 d_MO_countBehind_54 rfl ?_
          refine x_imul ho d_MO_countBehind_55 ?_
          refine x_iload_n ho 2 d_MO_countBehind_56 rfl ?_
          refine x_iadd ho d_MO_countBehind_57 ?_
          refine x_iald ho d_MO_countBehind_58 t_c_23 (by omega) (by omega) (by omega) ?_
          refine x_eqI (b := tN V.1.1 z1 z3.toNat z2) (by rw [cq_at hqq z_4.1 z_4.2 rfl]; exact sat_lo (by omega)) ?_
          refine x_iret ho hr d_MO_countBehind_59 ?_
          exact ⟨rI (by unfold r_countBehind; rw [cif_t (z_4), cif_t (c_23), cif_t (by omega)]), isO_mk t_o_21 t_n_22 k_10 k_11 k_12 k_13 k_14 k_15 k_16 t_c_23 t_e_24 k_17 a_k⟩
        ·
          have hlo : 1000000 < su (tN V.1.1 z1 z3.toNat) := Classical.not_not.mp fun q => by rw [sat_lo q] at c_41; omega
          refine x_bipush (z := (-3)) ho d_MO_countBehind_44 (by decide) ?_
          refine x_goto (tgt := 59) ho d_MO_countBehind_46 (by decide) ?_
          refine x_iret ho hr d_MO_countBehind_59 ?_
          exact ⟨rI (by unfold r_countBehind; rw [cif_t (z_4), cif_t (c_23), cif_f (by omega)]), isO_mk t_o_21 t_n_22 k_10 k_11 k_12 k_13 k_14 k_15 k_16 t_c_23 t_e_24 k_17 a_k⟩
      ·
        refine x_bipush (z := (-2)) ho d_MO_countBehind_26 (by decide) ?_
        refine x_iret ho hr d_MO_countBehind_28 ?_
        exact ⟨rI (by unfold r_countBehind; rw [cif_t (z_4), cif_f (c_23)]), isO_mk a_o a_n a_h a_s a_t a_b a_p a_u a_x a_c a_e a_y a_k⟩
    ·
      have z_4 : ¬ (isA z1 ∧ isA z2) := fun q => c_11 q.2
      refine x_iconst ho d_MO_countBehind_14 ?_
      refine x_iret ho hr d_MO_countBehind_15 ?_
      exact ⟨rI (by unfold r_countBehind; rw [cif_f (z_4)]), isO_mk a_o a_n a_h a_s a_t a_b a_p a_u a_x a_c a_e a_y a_k⟩
def q_MO_mixing (D : GG) (m : Nat) (V : WV) : Option Value → Heap → Prop := fun v0 H => v0 = some (zV (r_mixing V)) ∧ isO D H m V
theorem yv_MO_mixing : Yv y_MO_mixing b_MO_mixing 5 (Option.some FieldType.int) 0 := ⟨g_970, g_65, by decide, by decide +kernel⟩
set_option maxHeartbeats 4000000 in
set_option maxRecDepth 100000 in
theorem c_MO_mixing (l0 : Launch) (D : GG) (m : Nat) (V : WV)  : Ct l0 D y_MO_mixing b_MO_mixing 5 (Option.some FieldType.int) ({ frames := 4, cells := 0, slots := 0, locals := 91 } : Room) [.ref m] (fun H => isO D H m V) (rA m (m + 12)) 0 0 (q_MO_mixing D m V) := by
  refine Ct.of (L := [(0, .ref m)]) (by decide) (Nat.le_of_ble_eq_true rfl) rfl (fun M H ho hr hnm hH hpre => ?_)
  have hW := hpre
  obtain ⟨o_fo, o_di, o_az, o_t, o_b, o_p, o_u, o_c, o_e, o_y, a_o, a_n, a_h, a_s, a_t, a_b, a_p, a_u, a_x, a_c, a_e, a_y, a_k⟩ := id hW
  have n_o := a_n.ok
  have n_1 := n_o.1
  have n_2 := n_o.2.1
  have n_3 := n_o.2.2
  have h_b := a_h.b
  refine x_aload_n ho 0 d_MO_mixing_0 rfl ?_
  refine x_iconst ho d_MO_mixing_1 ?_
  refine x_callV (rest := []) ho d_MO_mixing_2 yv_MO_reached g_946 g_43 g_945 (c_MO_reached M.2.1 D m ((V.2.2.2.1.length : Int)) V.2.2.1 o_fo o_di ((V.2.2.2.2.length : Int)) o_az V.1 0 (by omega)) rfl rfl ⟨Nat.le_of_ble_eq_true rfl, Nat.le_of_ble_eq_true rfl⟩ ⟨Nat.le_of_ble_eq_true rfl, Nat.le_of_ble_eq_true rfl⟩ rfl rfl (Nat.le_of_ble_eq_true rfl) a_o rfl rfl ⟨a_o, a_n⟩ fr_none' (x_rd (fun v_1 hv_1 => ?_))
  obtain ⟨rfl, bb_3⟩ := hv_1
  show X _ _ _ _ _ _ _ _ _ [zV (rea V.1.1 0)] _
  have hrb := bb_3
  refine x_istore_n (L' := [(1, zV (rea V.1.1 0)), (0, .ref m)]) ho d_MO_mixing_5 (by decide) rfl ?_
  refine x_iconst ho d_MO_mixing_6 ?_
  refine x_istore_n (L' := [(2, zV 0), (1, zV (rea V.1.1 0)), (0, .ref m)]) ho d_MO_mixing_7 (by decide) rfl ?_
  have loop_8 : ∀ (kk : Nat) (l : Int) (Y : Int → Int) (H_4 : Heap) (l_o : At D H_4 m (oO 11 [.ref (m + 1), .ref (m + 2), zV ((V.2.2.2.1.length : Int)), .ref (m + 3), zV V.2.2.1, .ref (m + 4), .ref (m + 5), .ref (m + 6), zV o_fo, .ref (m + 7), zV o_di, zV ((V.2.2.2.2.length : Int)), .ref (m + 8), zV o_az, .ref (m + 9), .ref (m + 10), .ref (m + 11)])) (l_n : isN D H_4 (m + 1) V.1) (l_h : isHm D H_4 (m + 2) V.2.2.2.1) (l_s : isSl D H_4 (m + 3) V.2.2.1 V.2.1) (l_t : At D H_4 (m + 4) (oI D 301 o_t)) (l_b : At D H_4 (m + 5) (oI D 301 o_b)) (l_p : At D H_4 (m + 6) (oI D 300 o_p)) (l_u : At D H_4 (m + 7) (oI D 300 o_u)) (l_x : isTx D H_4 (m + 8) V.2.2.2.2) (l_c : At D H_4 (m + 9) (oI D 16 o_c)) (l_e : At D H_4 (m + 10) (oI D 16 o_e)) (l_y : At D H_4 (m + 11) (oI D 4 Y)) (l0 : 0 ≤ l ∧ l ≤ 4) (hY : ∀ q : Int, 0 ≤ q → q < l → Y q = sh q), (4 - l).toNat < kk → X M ({ frames := 4, cells := 0, slots := 0, locals := 91 } : Room) 5 (rA m (m + 12)) 0 0 (Qof M (rA m (m + 12)) (q_MO_mixing D m V) 0 0) 8 [(2, zV l), (1, zV (rea V.1.1 0)), (0, .ref m)] [] H_4 := by
    intro kk
    induction kk with
    | zero => intro l Y H_4 l_o l_n l_h l_s l_t l_b l_p l_u l_x l_c l_e l_y l0 hY hk; exact absurd hk (Nat.not_lt_zero _)
    | succ kk ih_8 =>
      intro l Y H_4 l_o l_n l_h l_s l_t l_b l_p l_u l_x l_c l_e l_y l0 hY hk_8
      refine x_iload_n ho 0 d_MO_mixing_8 rfl ?_
      refine x_iconst ho d_MO_mixing_9 ?_
      refine x_icmp_ge (tgt := 28) ho d_MO_mixing_10 (by decide) (by omega) (by omega) (fun c_10 => ?_) (fun c_10 => ?_)
      ·
        refine x_iconst ho d_MO_mixing_28 ?_
        refine x_istore_n (L' := [(2, zV 1), (1, zV (rea V.1.1 0)), (0, .ref m)]) ho d_MO_mixing_29 (by decide) rfl ?_
        have loop_30 : ∀ (kk : Nat) (n : Int) (Y : Int → Int) (H_5 : Heap) (l_o : At D H_5 m (oO 11 [.ref (m + 1), .ref (m + 2), zV ((V.2.2.2.1.length : Int)), .ref (m + 3), zV V.2.2.1, .ref (m + 4), .ref (m + 5), .ref (m + 6), zV o_fo, .ref (m + 7), zV o_di, zV ((V.2.2.2.2.length : Int)), .ref (m + 8), zV o_az, .ref (m + 9), .ref (m + 10), .ref (m + 11)])) (l_n : isN D H_5 (m + 1) V.1) (l_h : isHm D H_5 (m + 2) V.2.2.2.1) (l_s : isSl D H_5 (m + 3) V.2.2.1 V.2.1) (l_t : At D H_5 (m + 4) (oI D 301 o_t)) (l_b : At D H_5 (m + 5) (oI D 301 o_b)) (l_p : At D H_5 (m + 6) (oI D 300 o_p)) (l_u : At D H_5 (m + 7) (oI D 300 o_u)) (l_x : isTx D H_5 (m + 8) V.2.2.2.2) (l_c : At D H_5 (m + 9) (oI D 16 o_c)) (l_e : At D H_5 (m + 10) (oI D 16 o_e)) (l_y : At D H_5 (m + 11) (oI D 4 Y)) (n0 : 1 ≤ n ∧ n ≤ 17) (hY : ∀ q : Int, 0 ≤ q → q < 4 → Y q = lbN V.1.1 (sh q) (n - 1).toNat) (hm : mxF V.1.1 (17 - n).toNat = mxF V.1.1 16), (17 - n).toNat < kk → X M ({ frames := 4, cells := 0, slots := 0, locals := 91 } : Room) 5 (rA m (m + 12)) 0 0 (Qof M (rA m (m + 12)) (q_MO_mixing D m V) 0 0) 30 [(2, zV n), (1, zV (rea V.1.1 0)), (0, .ref m)] [] H_5 := by
          intro kk
          induction kk with
          | zero => intro n Y H_5 l_o l_n l_h l_s l_t l_b l_p l_u l_x l_c l_e l_y n0 hY hm hk; exact absurd hk (Nat.not_lt_zero _)
          | succ kk ih_30 =>
            intro n Y H_5 l_o l_n l_h l_s l_t l_b l_p l_u l_x l_c l_e l_y n0 hY hm hk_30
            refine x_iload_n ho 0 d_MO_mixing_30 rfl ?_
            refine x_bipush (z := 16) ho d_MO_mixing_31 (by decide) ?_
            refine x_icmp_gt (tgt := 113) ho d_MO_mixing_33 (by decide) (by omega) (by omega) (fun c_33 => ?_) (fun c_33 => ?_)
            ·
              refine x_bipush (z := (-5)) ho d_MO_mixing_113 (by decide) ?_
              refine x_iret ho hr d_MO_mixing_115 ?_
              exact ⟨rI (by unfold r_mixing; rw [← hm, show (17 - n).toNat = 0 by omega]; rfl), isO_mk l_o l_n l_h l_s l_t l_b l_p l_u l_x l_c l_e l_y a_k⟩
            ·
              refine x_iconst ho d_MO_mixing_36 ?_
              refine x_istore_n (L' := [(3, zV 1), (2, zV n), (1, zV (rea V.1.1 0)), (0, .ref m)]) ho d_MO_mixing_37 (by decide) rfl ?_
              refine x_iconst ho d_MO_mixing_38 ?_
              refine x_istore (L' := [(4, zV 0), (3, zV 1), (2, zV n), (1, zV (rea V.1.1 0)), (0, .ref m)]) ho d_MO_mixing_39 (by decide) rfl ?_
              have loop_41 : ∀ (kk : Nat) (l : Int) (s : Int) (Y : Int → Int) (H_6 : Heap) (l_o : At D H_6 m (oO 11 [.ref (m + 1), .ref (m + 2), zV ((V.2.2.2.1.length : Int)), .ref (m + 3), zV V.2.2.1, .ref (m + 4), .ref (m + 5), .ref (m + 6), zV o_fo, .ref (m + 7), zV o_di, zV ((V.2.2.2.2.length : Int)), .ref (m + 8), zV o_az, .ref (m + 9), .ref (m + 10), .ref (m + 11)])) (l_n : isN D H_6 (m + 1) V.1) (l_h : isHm D H_6 (m + 2) V.2.2.2.1) (l_s : isSl D H_6 (m + 3) V.2.2.1 V.2.1) (l_t : At D H_6 (m + 4) (oI D 301 o_t)) (l_b : At D H_6 (m + 5) (oI D 301 o_b)) (l_p : At D H_6 (m + 6) (oI D 300 o_p)) (l_u : At D H_6 (m + 7) (oI D 300 o_u)) (l_x : isTx D H_6 (m + 8) V.2.2.2.2) (l_c : At D H_6 (m + 9) (oI D 16 o_c)) (l_e : At D H_6 (m + 10) (oI D 16 o_e)) (l_y : At D H_6 (m + 11) (oI D 4 Y)) (l0 : 0 ≤ l ∧ l ≤ 4) (s0 : s = 0 ∨ s = 1) (hL : ∀ q : Int, 0 ≤ q → q < l → Y q = lbN V.1.1 (sh q) n.toNat) (hY : ∀ q : Int, l ≤ q → q < 4 → Y q = lbN V.1.1 (sh q) (n - 1).toNat) (hs : (s = 1 ∧ ∀ q : Int, 0 ≤ q → q < l → (hasB (rea V.1.1 0) q → andI (rea V.1.1 0) (15 - lbN V.1.1 (sh q) n.toNat) = 0)) ∨ (s = 0 ∧ ¬ mixB V.1.1 n.toNat)), (4 - l).toNat < kk → X M ({ frames := 4, cells := 0, slots := 0, locals := 91 } : Room) 5 (rA m (m + 12)) 0 0 (Qof M (rA m (m + 12)) (q_MO_mixing D m V) 0 0) 41 [(4, zV l), (3, zV s), (2, zV n), (1, zV (rea V.1.1 0)), (0, .ref m)] [] H_6 := by
                intro kk
                induction kk with
                | zero => intro l s Y H_6 l_o l_n l_h l_s l_t l_b l_p l_u l_x l_c l_e l_y l0 s0 hL hY hs hk; exact absurd hk (Nat.not_lt_zero _)
                | succ kk ih_41 =>
                  intro l s Y H_6 l_o l_n l_h l_s l_t l_b l_p l_u l_x l_c l_e l_y l0 s0 hL hY hs hk_41
                  refine x_iload ho 0 d_MO_mixing_41 rfl ?_
                  refine x_iconst ho d_MO_mixing_43 ?_
                  refine x_icmp_ge (tgt := 101) ho d_MO_mixing_44 (by decide) (by omega) (by omega) (fun c_44 => ?_) (fun c_44 => ?_)
                  ·
                    refine x_iload_n ho 1 d_MO_mixing_101 rfl ?_
                    refine x_if_eq (tgt := 107) ho d_MO_mixing_102 (by decide) (by omega) (fun c_102 => ?_) (fun c_102 => ?_)
                    ·
                      have hnm : ¬ mixB V.1.1 n.toNat := by rcases hs with h | h; omega; exact h.2
                      refine x_iinc (L' := [(2, zV (n + 1)), (4, zV l), (3, zV s), (1, zV (rea V.1.1 0)), (0, .ref m)]) ho 2 d_MO_mixing_107 rfl rfl (by decide) rfl ?_
                      refine x_goto (tgt := 30) ho d_MO_mixing_110 (by decide) ?_
                      refine x_sub (L' := [(2, zV (n + 1)), (1, zV (rea V.1.1 0)), (0, .ref m)]) [0, 3, 4] rfl ?_
                      exact ih_30 (n + 1) Y H_6 l_o l_n l_h l_s l_t l_b l_p l_u l_x l_c l_e l_y (by omega) (by rw [show n + 1 - 1 = n by omega]; exact fun q a b => hL q a (by omega)) (by rw [← hm]; exact (mxF_f (by omega) hnm).symm) (by omega)
                    ·
                      refine x_iload_n ho 2 d_MO_mixing_105 rfl ?_
                      refine x_iret ho hr d_MO_mixing_106 ?_
                      have hmx : mixB V.1.1 n.toNat := by rcases hs with h | h; exact fun q a b => h.2 q a (by omega); exact absurd h.1 c_102
                      exact ⟨rI (by unfold r_mixing; rw [← hm]; exact (mxF_t (by omega) hmx).symm), isO_mk l_o l_n l_h l_s l_t l_b l_p l_u l_x l_c l_e l_y a_k⟩
                  ·
                    have hwc : ∀ i : Int, 0 ≤ i → i < 4 → wf (V.1.1 i) := fun i p q => (n_1 i p q).2.2
                    have hshl := sh_16 l0.1 (show l < 4 by omega)
                    have hlb := lbN_16 hwc hshl (n - 1).toNat
                    have hlb2 := lbN_16 hwc hshl n.toNat
                    have hnl : led V.1.1 (lbN V.1.1 (sh l) (n - 1).toNat) = lbN V.1.1 (sh l) n.toNat := (lbN_nx n0.1).symm
                    refine x_aload_n ho 4 d_MO_mixing_47 rfl ?_
                    refine x_get 16 ho d_MO_mixing_48 cl_MO (by decide) g_773 l_o rfl ?_
                    refine x_iload ho 0 d_MO_mixing_51 rfl ?_
                    refine x_aload_n ho 4 d_MO_mixing_53 rfl ?_
                    refine x_aload_n ho 4 d_MO_mixing_54 rfl ?_
                    refine x_get 16 ho d_MO_mixing_55 cl_MO (by decide) g_773 l_o rfl ?_
                    refine x_iload ho 0 d_MO_mixing_58 rfl ?_
                    refine x_iald ho d_MO_mixing_60 l_y (by omega) (by omega) (by omega) ?_
                    refine x_eqI (b := lbN V.1.1 (sh l) (n - 1).toNat) (by exact hY l (by omega) (by omega)) ?_
                    refine x_callV (rest := [zV l, .ref (m + 11)]) ho d_MO_mixing_61 yv_MO_ahead g_949 g_44 g_948 (c_MO_ahead M.2.1 D m ((V.2.2.2.1.length : Int)) V.2.2.1 o_fo o_di ((V.2.2.2.2.length : Int)) o_az V.1 (lbN V.1.1 (sh l) (n - 1).toNat) (by omega)) rfl rfl ⟨Nat.le_of_ble_eq_true rfl, Nat.le_of_ble_eq_true rfl⟩ ⟨Nat.le_of_ble_eq_true rfl, Nat.le_of_ble_eq_true rfl⟩ rfl rfl (Nat.le_of_ble_eq_true rfl) l_o rfl rfl ⟨l_o, l_n⟩ fr_none' (x_rd (fun v_7 hv_7 => ?_))
                    obtain ⟨rfl, bb_9⟩ := hv_7
                    show X _ _ _ _ _ _ _ _ _ [zV (led V.1.1 (lbN V.1.1 (sh l) (n - 1).toNat)), zV l, .ref (m + 11)] _
                    refine x_iast ho d_MO_mixing_64 l_y (by omega) (by omega) (by omega) (rA_in (by omega) (by omega)) (fun H_10 p_11 z_12 q_13 => ?_)
                    have k_14 := l_o.kept (q_13 _ (by omega))
                    have k_15 := l_n.kept (q_13 _ (by omega))
                    have k_16 := l_h.kept (q_13 _ (by omega))
                    have k_17 := l_s.kept (q_13 _ (by omega))
                    have k_18 := l_t.kept (q_13 _ (by omega))
                    have k_19 := l_b.kept (q_13 _ (by omega))
                    have k_20 := l_p.kept (q_13 _ (by omega))
                    have k_21 := l_u.kept (q_13 _ (by omega))
                    have k_22 := l_x.kept (q_13 _ (by omega))
                    have k_23 := l_c.kept (q_13 _ (by omega))
                    have k_24 := l_e.kept (q_13 _ (by omega))
                    refine x_iload_n ho 1 d_MO_mixing_65 rfl ?_
                    refine x_iload_n ho 3 d_MO_mixing_66 rfl ?_
                    refine x_iload ho 0 d_MO_mixing_67 rfl ?_
                    refine x_shr16 ho d_MO_mixing_69 (by omega) (by omega) ?_
                    have hsh := shr_16 (s := rea V.1.1 0) (l := l) (by omega) (by omega)
                    refine x_iconst ho d_MO_mixing_70 ?_
                    refine x_and16 ho d_MO_mixing_71 (by omega) (by omega) ?_
                    refine x_eqI (b := bI (hasB (rea V.1.1 0) l)) (by exact bit_has (by omega) (by omega)) ?_
                    refine x_if_eqB (tgt := 88) ho d_MO_mixing_72 (by decide) (fun c_72 => ?_) (fun c_72 => ?_)
                    ·
                      refine x_iconst ho d_MO_mixing_88 ?_
                      refine x_goto (tgt := 93) ho d_MO_mixing_89 (by decide) ?_
                      refine x_and16 ho d_MO_mixing_93 (by omega) (by omega) ?_
                      refine x_eqI (b := s) (by exact and_b1 s0) ?_
                      refine x_istore_n (L' := [(3, zV s), (4, zV l), (2, zV n), (1, zV (rea V.1.1 0)), (0, .ref m)]) ho d_MO_mixing_94 (by decide) rfl ?_
                      refine x_iinc (L' := [(4, zV (l + 1)), (3, zV s), (2, zV n), (1, zV (rea V.1.1 0)), (0, .ref m)]) ho 1 d_MO_mixing_95 rfl rfl (by decide) rfl ?_
                      refine x_goto (tgt := 41) ho d_MO_mixing_98 (by decide) ?_
                      exact ih_41 (l + 1) s (zU Y l (led V.1.1 (lbN V.1.1 (sh l) (n - 1).toNat))) H_10 k_14 k_15 k_16 k_17 k_18 k_19 k_20 k_21 k_22 k_23 k_24 p_11 (by omega) (by omega) (by intro q a b; by_cases hj : q = l; rw [hj, zU_s]; exact hnl; rw [zU_n _ _ hj]; exact hL q a (by omega)) (by intro q a b; rw [zU_n _ _ (by omega)]; exact hY q (by omega) b) (by rcases hs with h | h; refine Or.inl ⟨h.1, fun q a b => ?_⟩; rcases (show q < l ∨ q = l by omega) with z | z; exact h.2 q a z; rw [z]; exact fun w => absurd w c_72; exact Or.inr h) (by omega)
                    ·
                      refine x_aload_n ho 4 d_MO_mixing_75 rfl ?_
                      refine x_get 16 ho d_MO_mixing_76 cl_MO (by decide) g_773 k_14 rfl ?_
                      refine x_iload ho 0 d_MO_mixing_79 rfl ?_
                      refine x_iald ho d_MO_mixing_81 p_11 (by omega) (by omega) (by omega) ?_
                      refine x_eqI (b := lbN V.1.1 (sh l) n.toNat) (by rw [zU_s]; exact hnl) ?_
                      refine x_iload_n ho 3 d_MO_mixing_82 rfl ?_
                      have h16 := andI_16 hlb2 hrb
                      refine x_and16 ho d_MO_mixing_83 (by omega) (by omega) ?_
                      refine x_iload_n ho 3 d_MO_mixing_84 rfl ?_
                      refine x_icmp_ne (tgt := 92) ho d_MO_mixing_85 (by decide) (by omega) (by omega) (fun c_85 => ?_) (fun c_85 => ?_)
                      ·
                        refine x_iconst ho d_MO_mixing_92 ?_
                        refine x_and16 ho d_MO_mixing_93 (by omega) (by omega) ?_
                        refine x_eqI (b := 0) (by exact and_b0 s0) ?_
                        refine x_istore_n (L' := [(3, zV 0), (4, zV l), (2, zV n), (1, zV (rea V.1.1 0)), (0, .ref m)]) ho d_MO_mixing_94 (by decide) rfl ?_
                        refine x_iinc (L' := [(4, zV (l + 1)), (3, zV 0), (2, zV n), (1, zV (rea V.1.1 0)), (0, .ref m)]) ho 1 d_MO_mixing_95 rfl rfl (by decide) rfl ?_
                        refine x_goto (tgt := 41) ho d_MO_mixing_98 (by decide) ?_
                        exact ih_41 (l + 1) 0 (zU Y l (led V.1.1 (lbN V.1.1 (sh l) (n - 1).toNat))) H_10 k_14 k_15 k_16 k_17 k_18 k_19 k_20 k_21 k_22 k_23 k_24 p_11 (by omega) (by omega) (by intro q a b; by_cases hj : q = l; rw [hj, zU_s]; exact hnl; rw [zU_n _ _ hj]; exact hL q a (by omega)) (by intro q a b; rw [zU_n _ _ (by omega)]; exact hY q (by omega) b) (by exact Or.inr ⟨rfl, fun w => c_85 ((andc hrb hlb2).mp (w l (by omega) (by omega) c_72))⟩) (by omega)
                      ·
                        refine x_iconst ho d_MO_mixing_88 ?_
                        refine x_goto (tgt := 93) ho d_MO_mixing_89 (by decide) ?_
                        refine x_and16 ho d_MO_mixing_93 (by omega) (by omega) ?_
                        refine x_eqI (b := s) (by exact and_b1 s0) ?_
                        refine x_istore_n (L' := [(3, zV s), (4, zV l), (2, zV n), (1, zV (rea V.1.1 0)), (0, .ref m)]) ho d_MO_mixing_94 (by decide) rfl ?_
                        refine x_iinc (L' := [(4, zV (l + 1)), (3, zV s), (2, zV n), (1, zV (rea V.1.1 0)), (0, .ref m)]) ho 1 d_MO_mixing_95 rfl rfl (by decide) rfl ?_
                        refine x_goto (tgt := 41) ho d_MO_mixing_98 (by decide) ?_
                        exact ih_41 (l + 1) s (zU Y l (led V.1.1 (lbN V.1.1 (sh l) (n - 1).toNat))) H_10 k_14 k_15 k_16 k_17 k_18 k_19 k_20 k_21 k_22 k_23 k_24 p_11 (by omega) (by omega) (by intro q a b; by_cases hj : q = l; rw [hj, zU_s]; exact hnl; rw [zU_n _ _ hj]; exact hL q a (by omega)) (by intro q a b; rw [zU_n _ _ (by omega)]; exact hY q (by omega) b) (by rcases hs with h | h; refine Or.inl ⟨h.1, fun q a b => ?_⟩; rcases (show q < l ∨ q = l by omega) with z | z; exact h.2 q a z; rw [z]; exact fun _ => (andc hrb hlb2).mpr c_85; exact Or.inr h) (by omega)
              exact loop_41 _ 0 1 Y H_5 l_o l_n l_h l_s l_t l_b l_p l_u l_x l_c l_e l_y (by omega) (by omega) (by exact fun q a b => by omega) (by exact fun q a b => hY q a b) (by exact Or.inl ⟨rfl, fun q a b => by omega⟩) (Nat.lt_succ_self _)
        exact loop_30 _ 1 Y H_4 l_o l_n l_h l_s l_t l_b l_p l_u l_x l_c l_e l_y (by omega) (by exact fun q a b => hY q a (by omega)) (by rfl) (Nat.lt_succ_self _)
      ·
        refine x_aload_n ho 2 d_MO_mixing_13 rfl ?_
        refine x_get 16 ho d_MO_mixing_14 cl_MO (by decide) g_773 l_o rfl ?_
        refine x_iload_n ho 0 d_MO_mixing_17 rfl ?_
        refine x_iconst ho d_MO_mixing_18 ?_
        refine x_iload_n ho 0 d_MO_mixing_19 rfl ?_
        refine x_shl1 ho d_MO_mixing_20 (by omega) ?_
        refine x_iast ho d_MO_mixing_21 l_y (by omega) (by omega) (by omega) (rA_in (by omega) (by omega)) (fun H_25 p_26 z_27 q_28 => ?_)
        have k_29 := l_o.kept (q_28 _ (by omega))
        have k_30 := l_n.kept (q_28 _ (by omega))
        have k_31 := l_h.kept (q_28 _ (by omega))
        have k_32 := l_s.kept (q_28 _ (by omega))
        have k_33 := l_t.kept (q_28 _ (by omega))
        have k_34 := l_b.kept (q_28 _ (by omega))
        have k_35 := l_p.kept (q_28 _ (by omega))
        have k_36 := l_u.kept (q_28 _ (by omega))
        have k_37 := l_x.kept (q_28 _ (by omega))
        have k_38 := l_c.kept (q_28 _ (by omega))
        have k_39 := l_e.kept (q_28 _ (by omega))
        refine x_iinc (L' := [(2, zV (l + 1)), (1, zV (rea V.1.1 0)), (0, .ref m)]) ho 0 d_MO_mixing_22 rfl rfl (by decide) rfl ?_
        refine x_goto (tgt := 8) ho d_MO_mixing_25 (by decide) ?_
        exact ih_8 (l + 1) (zU Y l (sh l)) H_25 k_29 k_30 k_31 k_32 k_33 k_34 k_35 k_36 k_37 k_38 k_39 p_26 (by omega) (by intro q a b; by_cases hj : q = l; rw [hj, zU_s]; rw [zU_n _ _ hj]; exact hY q a (by omega)) (by omega)
  exact loop_8 _ 0 o_y H a_o a_n a_h a_s a_t a_b a_p a_u a_x a_c a_e a_y (by omega) (by exact fun q a b => by omega) (Nat.lt_succ_self _)
