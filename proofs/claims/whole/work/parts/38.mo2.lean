def q_MO_record (D : GG) (m : Nat) (fl : Int) (fo : Int) (di : Int) (ty : Int) (az : Int) (v : SV) (l : List SV) : Option Value → Heap → Prop := fun v0 H => v0 = none ∧ At D H m (oO 11 [.ref (m + 1), .ref (m + 2), zV (((recH l v).length : Int)), .ref (m + 3), zV fl, .ref (m + 4), .ref (m + 5), .ref (m + 6), zV fo, .ref (m + 7), zV di, zV ty, .ref (m + 8), zV az, .ref (m + 9), .ref (m + 10), .ref (m + 11)]) ∧ isN D H (m + 1) v ∧ isHm D H (m + 2) (recH l v)
theorem yv_MO_record : Yv y_MO_record b_MO_record 2 (Option.none : Option FieldType) 0 := ⟨g_836, g_65, by decide, by decide +kernel⟩
set_option maxHeartbeats 4000000 in
set_option maxRecDepth 100000 in
theorem c_MO_record (l0 : Launch) (D : GG) (m : Nat) (fl : Int) (fo : Int) (di : Int) (ty : Int) (az : Int) (v : SV) (l : List SV)  : Ct l0 D y_MO_record b_MO_record 2 (Option.none : Option FieldType) ({ frames := 0, cells := 0, slots := 0, locals := 0 } : Room) [.ref m] (fun H => At D H m (oO 11 [.ref (m + 1), .ref (m + 2), zV ((l.length : Int)), .ref (m + 3), zV fl, .ref (m + 4), .ref (m + 5), .ref (m + 6), zV fo, .ref (m + 7), zV di, zV ty, .ref (m + 8), zV az, .ref (m + 9), .ref (m + 10), .ref (m + 11)]) ∧ isN D H (m + 1) v ∧ isHm D H (m + 2) l) (rA m (m + 3)) 0 0 (q_MO_record D m fl fo di ty az v l) := by
  refine Ct.of (L := [(0, .ref m)]) (by decide) (Nat.le_of_ble_eq_true rfl) rfl (fun M H ho hr hnm hH hpre => ?_)
  obtain ⟨t_o, t_n, t_h⟩ := hpre
  obtain ⟨n_f, n_a, n_r, n_o⟩ := id t_n
  have n_1 := n_o.1
  have n_2 := n_o.2.1
  have n_3 := n_o.2.2
  obtain ⟨h_f, h_a, h_r, h_l, h_k⟩ := id t_h
  refine x_aload_n ho 0 d_MO_record_0 rfl ?_
  refine x_get 2 ho d_MO_record_1 cl_MO (by decide) g_759 t_o rfl ?_
  refine x_iconst ho d_MO_record_4 ?_
  refine x_icmp_ne (tgt := 49) ho d_MO_record_5 (by decide) (by omega) (by omega) (fun c_5 => ?_) (fun c_5 => ?_)
  ·
    refine x_iconst ho d_MO_record_49 ?_
    refine x_istore_n (L' := [(1, zV 0), (0, .ref m)]) ho d_MO_record_50 (by decide) rfl ?_
    have loop_51 : ∀ (kk : Nat) (x : Int) (B : Int → Int) (l1 : List SV) (H_1 : Heap) (l_o : At D H_1 m (oO 11 [.ref (m + 1), .ref (m + 2), zV ((l1.length : Int)), .ref (m + 3), zV fl, .ref (m + 4), .ref (m + 5), .ref (m + 6), zV fo, .ref (m + 7), zV di, zV ty, .ref (m + 8), zV az, .ref (m + 9), .ref (m + 10), .ref (m + 11)])) (l_n : isN D H_1 (m + 1) v) (l_a : At D H_1 (m + 1) (oI D 358 n_f)) (l_d : At D H_1 (m + 2) (oI D 1432 (zC n_f B 0 (358 * (l1.length : Int)) x))) (x0 : 0 ≤ x ∧ x ≤ 358) (hB : rpH B l1) (hl1 : (l1.length : Int) < 4) (hk1 : ∀ y ∈ l1, okS y) (hre : recH l v = l1 ++ [v]), (358 - x).toNat < kk → X M ({ frames := 0, cells := 0, slots := 0, locals := 0 } : Room) 2 (rA m (m + 3)) 0 0 (Qof M (rA m (m + 3)) (q_MO_record D m fl fo di ty az v l) 0 0) 51 [(1, zV x), (0, .ref m)] [] H_1 := by
      intro kk
      induction kk with
      | zero => intro x B l1 H_1 l_o l_n l_a l_d x0 hB hl1 hk1 hre hk; exact absurd hk (Nat.not_lt_zero _)
      | succ kk ih_51 =>
        intro x B l1 H_1 l_o l_n l_a l_d x0 hB hl1 hk1 hre hk_51
        refine x_iload_n ho 0 d_MO_record_51 rfl ?_
        refine x_sipush (z := 358) ho d_MO_record_52 (by decide) ?_
        refine x_icmp_ge (tgt := 85) ho d_MO_record_55 (by decide) (by omega) (by omega) (fun c_55 => ?_) (fun c_55 => ?_)
        ·
          refine x_aload_n ho 1 d_MO_record_85 rfl ?_
          refine x_dup ho d_MO_record_86 rfl ?_
          refine x_get 2 ho d_MO_record_87 cl_MO (by decide) g_759 l_o rfl ?_
          refine x_iconst ho d_MO_record_90 ?_
          refine x_iadd ho d_MO_record_91 ?_
          refine x_put 2 ho d_MO_record_92 cl_MO (by decide) g_759 l_o rfl rfl rfl (Nat.le_of_ble_eq_true rfl) (rA_in (by omega) (by omega)) (fun H_2 p_3 z_4 q_5 => ?_)
          have k_6 := l_n.kept (q_5 _ (by omega))
          have k_7 := l_a.kept (q_5 _ (by omega))
          have k_8 := l_d.kept (q_5 _ (by omega))
          refine x_vret ho hr d_MO_record_95 ?_
          refine ⟨rfl, (by rw [hre, len1]; exact p_3), k_6, ?_⟩
          have hz := rec_len (v := v) h_l
          have hy := rec_ok h_k n_o
          rw [hre] at hz hy ⊢
          exact ⟨_, k_8, rpH_app hB hl1 hk1 n_r n_o (by omega), hz, hy⟩
        ·
          refine x_aload_n ho 1 d_MO_record_58 rfl ?_
          refine x_get 1 ho d_MO_record_59 cl_MO (by decide) g_758 l_o rfl ?_
          refine x_sipush (z := 358) ho d_MO_record_62 (by decide) ?_
          refine x_aload_n ho 1 d_MO_record_65 rfl ?_
          refine x_get 2 ho d_MO_record_66 cl_MO (by decide) g_759 l_o rfl ?_
          refine x_imul ho d_MO_record_69 ?_
          refine x_iload_n ho 0 d_MO_record_70 rfl ?_
          refine x_iadd ho d_MO_record_71 ?_
          refine x_aload_n ho 1 d_MO_record_72 rfl ?_
          refine x_get 0 ho d_MO_record_73 cl_MO (by decide) g_757 l_o rfl ?_
          refine x_iload_n ho 0 d_MO_record_76 rfl ?_
          refine x_iald ho d_MO_record_77 l_a (by omega) (by omega) (by omega) ?_
          refine x_iast ho d_MO_record_78 l_d (by omega) (by omega) (by omega) (rA_in (by omega) (by omega)) (fun H_9 p_10 z_11 q_12 => ?_)
          have k_13 := l_o.kept (q_12 _ (by omega))
          have k_14 := l_n.kept (q_12 _ (by omega))
          have k_15 := l_a.kept (q_12 _ (by omega))
          refine x_iinc (L' := [(1, zV (x + 1)), (0, .ref m)]) ho 0 d_MO_record_79 rfl rfl (by decide) rfl ?_
          refine x_goto (tgt := 51) ho d_MO_record_82 (by decide) ?_
          exact ih_51 (x + 1) B l1 H_9 k_13 k_14 k_15 (zC_at p_10 (by omega) (by omega) (by first | rfl | (congr 1; omega))) (by omega) (by exact hB) (by exact hl1) (by exact hk1) (by exact hre) (by omega)
    exact loop_51 _ 0 h_f l H t_o t_n n_a (by rw [zC_0]; exact h_a) (by omega) (by exact h_r) (by omega) (by exact h_k) (by exact rec_a (by omega)) (Nat.lt_succ_self _)
  ·
    refine x_iconst ho d_MO_record_8 ?_
    refine x_istore_n (L' := [(1, zV 0), (0, .ref m)]) ho d_MO_record_9 (by decide) rfl ?_
    have loop_10 : ∀ (kk : Nat) (x : Int) (H_16 : Heap) (l_o : At D H_16 m (oO 11 [.ref (m + 1), .ref (m + 2), zV ((l.length : Int)), .ref (m + 3), zV fl, .ref (m + 4), .ref (m + 5), .ref (m + 6), zV fo, .ref (m + 7), zV di, zV ty, .ref (m + 8), zV az, .ref (m + 9), .ref (m + 10), .ref (m + 11)])) (l_n : isN D H_16 (m + 1) v) (l_a : At D H_16 (m + 1) (oI D 358 n_f)) (l_d : At D H_16 (m + 2) (oI D 1432 (zC h_f h_f 358 0 x))) (x0 : 0 ≤ x ∧ x ≤ 1074), (1074 - x).toNat < kk → X M ({ frames := 0, cells := 0, slots := 0, locals := 0 } : Room) 2 (rA m (m + 3)) 0 0 (Qof M (rA m (m + 3)) (q_MO_record D m fl fo di ty az v l) 0 0) 10 [(1, zV x), (0, .ref m)] [] H_16 := by
      intro kk
      induction kk with
      | zero => intro x H_16 l_o l_n l_a l_d x0 hk; exact absurd hk (Nat.not_lt_zero _)
      | succ kk ih_10 =>
        intro x H_16 l_o l_n l_a l_d x0 hk_10
        refine x_iload_n ho 0 d_MO_record_10 rfl ?_
        refine x_sipush (z := 1074) ho d_MO_record_11 (by decide) ?_
        refine x_icmp_ge (tgt := 39) ho d_MO_record_14 (by decide) (by omega) (by omega) (fun c_14 => ?_) (fun c_14 => ?_)
        ·
          refine x_aload_n ho 1 d_MO_record_39 rfl ?_
          refine x_dup ho d_MO_record_40 rfl ?_
          refine x_get 2 ho d_MO_record_41 cl_MO (by decide) g_759 l_o rfl ?_
          refine x_iconst ho d_MO_record_44 ?_
          refine x_isub ho d_MO_record_45 ?_
          refine x_put 2 ho d_MO_record_46 cl_MO (by decide) g_759 l_o rfl rfl rfl (Nat.le_of_ble_eq_true rfl) (rA_in (by omega) (by omega)) (fun H_17 p_18 z_19 q_20 => ?_)
          have k_21 := l_n.kept (q_20 _ (by omega))
          have k_22 := l_a.kept (q_20 _ (by omega))
          have k_23 := l_d.kept (q_20 _ (by omega))
          refine x_iconst ho d_MO_record_49 ?_
          refine x_istore_n (L' := [(1, zV 0), (0, .ref m)]) ho d_MO_record_50 (by decide) rfl ?_
          have loop_51 : ∀ (kk : Nat) (x : Int) (B : Int → Int) (l1 : List SV) (H_24 : Heap) (l_o : At D H_24 m (oO 11 [.ref (m + 1), .ref (m + 2), zV ((l1.length : Int)), .ref (m + 3), zV fl, .ref (m + 4), .ref (m + 5), .ref (m + 6), zV fo, .ref (m + 7), zV di, zV ty, .ref (m + 8), zV az, .ref (m + 9), .ref (m + 10), .ref (m + 11)])) (l_n : isN D H_24 (m + 1) v) (l_a : At D H_24 (m + 1) (oI D 358 n_f)) (l_d : At D H_24 (m + 2) (oI D 1432 (zC n_f B 0 (358 * (l1.length : Int)) x))) (x0 : 0 ≤ x ∧ x ≤ 358) (hB : rpH B l1) (hl1 : (l1.length : Int) < 4) (hk1 : ∀ y ∈ l1, okS y) (hre : recH l v = l1 ++ [v]), (358 - x).toNat < kk → X M ({ frames := 0, cells := 0, slots := 0, locals := 0 } : Room) 2 (rA m (m + 3)) 0 0 (Qof M (rA m (m + 3)) (q_MO_record D m fl fo di ty az v l) 0 0) 51 [(1, zV x), (0, .ref m)] [] H_24 := by
            intro kk
            induction kk with
            | zero => intro x B l1 H_24 l_o l_n l_a l_d x0 hB hl1 hk1 hre hk; exact absurd hk (Nat.not_lt_zero _)
            | succ kk ih_51 =>
              intro x B l1 H_24 l_o l_n l_a l_d x0 hB hl1 hk1 hre hk_51
              refine x_iload_n ho 0 d_MO_record_51 rfl ?_
              refine x_sipush (z := 358) ho d_MO_record_52 (by decide) ?_
              refine x_icmp_ge (tgt := 85) ho d_MO_record_55 (by decide) (by omega) (by omega) (fun c_55 => ?_) (fun c_55 => ?_)
              ·
                refine x_aload_n ho 1 d_MO_record_85 rfl ?_
                refine x_dup ho d_MO_record_86 rfl ?_
                refine x_get 2 ho d_MO_record_87 cl_MO (by decide) g_759 l_o rfl ?_
                refine x_iconst ho d_MO_record_90 ?_
                refine x_iadd ho d_MO_record_91 ?_
                refine x_put 2 ho d_MO_record_92 cl_MO (by decide) g_759 l_o rfl rfl rfl (Nat.le_of_ble_eq_true rfl) (rA_in (by omega) (by omega)) (fun H_25 p_26 z_27 q_28 => ?_)
                have k_29 := l_n.kept (q_28 _ (by omega))
                have k_30 := l_a.kept (q_28 _ (by omega))
                have k_31 := l_d.kept (q_28 _ (by omega))
                refine x_vret ho hr d_MO_record_95 ?_
                refine ⟨rfl, (by rw [hre, len1]; exact p_26), k_29, ?_⟩
                have hz := rec_len (v := v) h_l
                have hy := rec_ok h_k n_o
                rw [hre] at hz hy ⊢
                exact ⟨_, k_31, rpH_app hB hl1 hk1 n_r n_o (by omega), hz, hy⟩
              ·
                refine x_aload_n ho 1 d_MO_record_58 rfl ?_
                refine x_get 1 ho d_MO_record_59 cl_MO (by decide) g_758 l_o rfl ?_
                refine x_sipush (z := 358) ho d_MO_record_62 (by decide) ?_
                refine x_aload_n ho 1 d_MO_record_65 rfl ?_
                refine x_get 2 ho d_MO_record_66 cl_MO (by decide) g_759 l_o rfl ?_
                refine x_imul ho d_MO_record_69 ?_
                refine x_iload_n ho 0 d_MO_record_70 rfl ?_
                refine x_iadd ho d_MO_record_71 ?_
                refine x_aload_n ho 1 d_MO_record_72 rfl ?_
                refine x_get 0 ho d_MO_record_73 cl_MO (by decide) g_757 l_o rfl ?_
                refine x_iload_n ho 0 d_MO_record_76 rfl ?_
                refine x_iald ho d_MO_record_77 l_a (by omega) (by omega) (by omega) ?_
                refine x_iast ho d_MO_record_78 l_d (by omega) (by omega) (by omega) (rA_in (by omega) (by omega)) (fun H_32 p_33 z_34 q_35 => ?_)
                have k_36 := l_o.kept (q_35 _ (by omega))
                have k_37 := l_n.kept (q_35 _ (by omega))
                have k_38 := l_a.kept (q_35 _ (by omega))
                refine x_iinc (L' := [(1, zV (x + 1)), (0, .ref m)]) ho 0 d_MO_record_79 rfl rfl (by decide) rfl ?_
                refine x_goto (tgt := 51) ho d_MO_record_82 (by decide) ?_
                exact ih_51 (x + 1) B l1 H_32 k_36 k_37 k_38 (zC_at p_33 (by omega) (by omega) (by first | rfl | (congr 1; omega))) (by omega) (by exact hB) (by exact hl1) (by exact hk1) (by exact hre) (by omega)
          exact loop_51 _ 0 (zC h_f h_f 358 0 x) (l.drop 1) H_17 (by rw [lend (by omega)]; exact p_18) k_21 k_22 (by rw [zC_0]; exact k_23) (by omega) (by exact rpH_drop h_r (by omega) h_k (by omega)) (by rw [lend (by omega)]; omega) (by exact fun y hy => h_k y (List.mem_of_mem_drop hy)) (by exact rec_b (by omega)) (Nat.lt_succ_self _)
        ·
          refine x_aload_n ho 1 d_MO_record_17 rfl ?_
          refine x_get 1 ho d_MO_record_18 cl_MO (by decide) g_758 l_o rfl ?_
          refine x_iload_n ho 0 d_MO_record_21 rfl ?_
          refine x_aload_n ho 1 d_MO_record_22 rfl ?_
          refine x_get 1 ho d_MO_record_23 cl_MO (by decide) g_758 l_o rfl ?_
          refine x_iload_n ho 0 d_MO_record_26 rfl ?_
          refine x_sipush (z := 358) ho d_MO_record_27 (by decide) ?_
          refine x_iadd ho d_MO_record_30 ?_
          refine x_iald ho d_MO_record_31 l_d (by omega) (by omega) (by omega) ?_
          refine x_eqI (b := h_f (358 + x)) (by rw [zC_out _ _ (by omega), show x + 358 = 358 + x by omega]) ?_
          refine x_iast ho d_MO_record_32 l_d (by omega) (by omega) (by omega) (rA_in (by omega) (by omega)) (fun H_39 p_40 z_41 q_42 => ?_)
          have k_43 := l_o.kept (q_42 _ (by omega))
          have k_44 := l_n.kept (q_42 _ (by omega))
          have k_45 := l_a.kept (q_42 _ (by omega))
          refine x_iinc (L' := [(1, zV (x + 1)), (0, .ref m)]) ho 0 d_MO_record_33 rfl rfl (by decide) rfl ?_
          refine x_goto (tgt := 10) ho d_MO_record_36 (by decide) ?_
          exact ih_10 (x + 1) H_39 k_43 k_44 k_45 (zC_at p_40 (by omega) (by omega) (by first | rfl | (congr 1; omega))) (by omega) (by omega)
    exact loop_10 _ 0 H t_o t_n n_a (by rw [zC_0]; exact h_a) (by omega) (Nat.lt_succ_self _)
def q_MO_undo (D : GG) (m : Nat) (V : WV) : Option Value → Heap → Prop := fun v0 H => v0 = some (zV ((m_undo V).1)) ∧ isO D H m ((m_undo V).2)
theorem yv_MO_undo : Yv y_MO_undo b_MO_undo 2 (Option.some FieldType.int) 0 := ⟨g_925, g_65, by decide, by decide +kernel⟩
set_option maxHeartbeats 4000000 in
set_option maxRecDepth 100000 in
theorem c_MO_undo (l0 : Launch) (D : GG) (m : Nat) (V : WV)  : Ct l0 D y_MO_undo b_MO_undo 2 (Option.some FieldType.int) ({ frames := 0, cells := 0, slots := 0, locals := 0 } : Room) [.ref m] (fun H => isO D H m V) (rA m (m + 12)) 0 0 (q_MO_undo D m V) := by
  refine Ct.of (L := [(0, .ref m)]) (by decide) (Nat.le_of_ble_eq_true rfl) rfl (fun M H ho hr hnm hH hpre => ?_)
  have hW := hpre
  obtain ⟨o_fo, o_di, o_az, o_t, o_b, o_p, o_u, o_c, o_e, o_y, a_o, a_n, a_h, a_s, a_t, a_b, a_p, a_u, a_x, a_c, a_e, a_y, a_k⟩ := id hW
  have n_o := a_n.ok
  have n_1 := n_o.1
  have n_2 := n_o.2.1
  have n_3 := n_o.2.2
  have h_b := a_h.b
  obtain ⟨h_f, h_a, h_r, h_l, h_k⟩ := id a_h
  obtain ⟨n_f, n_a, n_r, n_p⟩ := id a_n
  refine x_aload_n ho 0 d_MO_undo_0 rfl ?_
  refine x_get 2 ho d_MO_undo_1 cl_MO (by decide) g_759 a_o rfl ?_
  refine x_if_ne (tgt := 10) ho d_MO_undo_4 (by decide) (by omega) (fun c_4 => ?_) (fun c_4 => ?_)
  ·
    refine x_aload_n ho 0 d_MO_undo_10 rfl ?_
    refine x_dup ho d_MO_undo_11 rfl ?_
    refine x_get 2 ho d_MO_undo_12 cl_MO (by decide) g_759 a_o rfl ?_
    refine x_iconst ho d_MO_undo_15 ?_
    refine x_isub ho d_MO_undo_16 ?_
    refine x_put 2 ho d_MO_undo_17 cl_MO (by decide) g_759 a_o rfl rfl rfl (Nat.le_of_ble_eq_true rfl) (rA_in (by omega) (by omega)) (fun H_1 p_2 z_3 q_4 => ?_)
    have k_5 := a_s.kept (q_4 _ (by omega))
    have k_6 := a_t.kept (q_4 _ (by omega))
    have k_7 := a_b.kept (q_4 _ (by omega))
    have k_8 := a_p.kept (q_4 _ (by omega))
    have k_9 := a_u.kept (q_4 _ (by omega))
    have k_10 := a_x.kept (q_4 _ (by omega))
    have k_11 := a_c.kept (q_4 _ (by omega))
    have k_12 := a_e.kept (q_4 _ (by omega))
    have k_13 := a_y.kept (q_4 _ (by omega))
    have k_14 := h_a.kept (q_4 _ (by omega))
    have k_15 := n_a.kept (q_4 _ (by omega))
    refine x_iconst ho d_MO_undo_20 ?_
    refine x_istore_n (L' := [(1, zV 0), (0, .ref m)]) ho d_MO_undo_21 (by decide) rfl ?_
    have loop_22 : ∀ (kk : Nat) (x : Int) (H_16 : Heap) (l_o : At D H_16 m (oO 11 [.ref (m + 1), .ref (m + 2), zV ((V.2.2.2.1.length : Int) - 1), .ref (m + 3), zV V.2.2.1, .ref (m + 4), .ref (m + 5), .ref (m + 6), zV o_fo, .ref (m + 7), zV o_di, zV ((V.2.2.2.2.length : Int)), .ref (m + 8), zV o_az, .ref (m + 9), .ref (m + 10), .ref (m + 11)])) (l_h : At D H_16 (m + 2) (oI D 1432 h_f)) (l_s : isSl D H_16 (m + 3) V.2.2.1 V.2.1) (l_t : At D H_16 (m + 4) (oI D 301 o_t)) (l_b : At D H_16 (m + 5) (oI D 301 o_b)) (l_p : At D H_16 (m + 6) (oI D 300 o_p)) (l_u : At D H_16 (m + 7) (oI D 300 o_u)) (l_x : isTx D H_16 (m + 8) V.2.2.2.2) (l_c : At D H_16 (m + 9) (oI D 16 o_c)) (l_e : At D H_16 (m + 10) (oI D 16 o_e)) (l_y : At D H_16 (m + 11) (oI D 4 o_y)) (l_d : At D H_16 (m + 1) (oI D 358 (zC h_f n_f (358 * ((V.2.2.2.1.length : Int) - 1)) 0 x))) (x0 : 0 ≤ x ∧ x ≤ 358), (358 - x).toNat < kk → X M ({ frames := 0, cells := 0, slots := 0, locals := 0 } : Room) 2 (rA m (m + 12)) 0 0 (Qof M (rA m (m + 12)) (q_MO_undo D m V) 0 0) 22 [(1, zV x), (0, .ref m)] [] H_16 := by
      intro kk
      induction kk with
      | zero => intro x H_16 l_o l_h l_s l_t l_b l_p l_u l_x l_c l_e l_y l_d x0 hk; exact absurd hk (Nat.not_lt_zero _)
      | succ kk ih_22 =>
        intro x H_16 l_o l_h l_s l_t l_b l_p l_u l_x l_c l_e l_y l_d x0 hk_22
        refine x_iload_n ho 0 d_MO_undo_22 rfl ?_
        refine x_sipush (z := 358) ho d_MO_undo_23 (by decide) ?_
        refine x_icmp_ge (tgt := 56) ho d_MO_undo_26 (by decide) (by omega) (by omega) (fun c_26 => ?_) (fun c_26 => ?_)
        ·
          refine x_aload_n ho 1 d_MO_undo_56 rfl ?_
          refine x_get 2 ho d_MO_undo_57 cl_MO (by decide) g_759 l_o rfl ?_
          refine x_iret ho hr d_MO_undo_60 ?_
          have hne : ¬ V.2.2.2.1 = [] := fun q => by rw [q] at c_4; exact c_4 rfl
          have e : m_undo V = ((V.2.2.2.1.length : Int) - 1, (gH V.2.2.2.1 ((V.2.2.2.1.length : Int) - 1), V.2.1, V.2.2.1, V.2.2.2.1.dropLast, V.2.2.2.2)) := by unfold m_undo; rw [cif_f (hne)]
          exact ⟨by rw [e], by rw [e]; exact isO_mk (by show At D _ m (oO 11 [_, _, zV (V.2.2.2.1.dropLast.length : Int), _, _, _, _, _, _, _, _, _, _, _, _, _, _]); rw [lendl (by omega)]; exact l_o) ⟨_, l_d, rpS_all (h_r _ (by omega) (by omega)) (h_k _ (mo_mem (by omega) (by omega))) (by omega), h_k _ (mo_mem (by omega) (by omega))⟩ ⟨_, l_h, rpH_undo h_r h_l, (by show V.2.2.2.1.dropLast.length ≤ 4; rw [List.length_dropLast]; omega), fun y hy => h_k y ((List.dropLast_sublist _).subset hy)⟩ l_s l_t l_b l_p l_u l_x l_c l_e l_y a_k⟩
        ·
          refine x_aload_n ho 1 d_MO_undo_29 rfl ?_
          refine x_get 0 ho d_MO_undo_30 cl_MO (by decide) g_757 l_o rfl ?_
          refine x_iload_n ho 0 d_MO_undo_33 rfl ?_
          refine x_aload_n ho 1 d_MO_undo_34 rfl ?_
          refine x_get 1 ho d_MO_undo_35 cl_MO (by decide) g_758 l_o rfl ?_
          refine x_sipush (z := 358) ho d_MO_undo_38 (by decide) ?_
          refine x_aload_n ho 1 d_MO_undo_41 rfl ?_
          refine x_get 2 ho d_MO_undo_42 cl_MO (by decide) g_759 l_o rfl ?_
          refine x_imul ho d_MO_undo_45 ?_
          refine x_iload_n ho 0 d_MO_undo_46 rfl ?_
          refine x_iadd ho d_MO_undo_47 ?_
          refine x_iald ho d_MO_undo_48 l_h (by omega) (by omega) (by omega) ?_
          refine x_iast ho d_MO_undo_49 l_d (by omega) (by omega) (by omega) (rA_in (by omega) (by omega)) (fun H_17 p_18 z_19 q_20 => ?_)
          have k_21 := l_o.kept (q_20 _ (by omega))
          have k_22 := l_h.kept (q_20 _ (by omega))
          have k_23 := l_s.kept (q_20 _ (by omega))
          have k_24 := l_t.kept (q_20 _ (by omega))
          have k_25 := l_b.kept (q_20 _ (by omega))
          have k_26 := l_p.kept (q_20 _ (by omega))
          have k_27 := l_u.kept (q_20 _ (by omega))
          have k_28 := l_x.kept (q_20 _ (by omega))
          have k_29 := l_c.kept (q_20 _ (by omega))
          have k_30 := l_e.kept (q_20 _ (by omega))
          have k_31 := l_y.kept (q_20 _ (by omega))
          refine x_iinc (L' := [(1, zV (x + 1)), (0, .ref m)]) ho 0 d_MO_undo_50 rfl rfl (by decide) rfl ?_
          refine x_goto (tgt := 22) ho d_MO_undo_53 (by decide) ?_
          exact ih_22 (x + 1) H_17 k_21 k_22 k_23 k_24 k_25 k_26 k_27 k_28 k_29 k_30 k_31 (zC_at p_18 (by omega) (by omega) (by first | rfl | (congr 1; omega))) (by omega) (by omega)
    exact loop_22 _ 0 H_1 p_2 k_14 k_5 k_6 k_7 k_8 k_9 k_10 k_11 k_12 k_13 (by rw [zC_0]; exact k_15) (by omega) (Nat.lt_succ_self _)
  ·
    refine x_bipush (z := (-5)) ho d_MO_undo_7 (by decide) ?_
    refine x_iret ho hr d_MO_undo_9 ?_
    have e : m_undo V = (-5, V) := by unfold m_undo; rw [cif_t (List.eq_nil_of_length_eq_zero (by omega))]
    exact ⟨by rw [e], by rw [e]; exact isO_mk a_o a_n a_h a_s a_t a_b a_p a_u a_x a_c a_e a_y a_k⟩
def q_MO_keep (D : GG) (m : Nat) (V : WV) : Option Value → Heap → Prop := fun v0 H => v0 = some (zV ((m_keep V).1)) ∧ isO D H m ((m_keep V).2)
theorem yv_MO_keep : Yv y_MO_keep b_MO_keep 2 (Option.some FieldType.int) 0 := ⟨g_929, g_65, by decide, by decide +kernel⟩
set_option maxHeartbeats 4000000 in
set_option maxRecDepth 100000 in
theorem c_MO_keep (l0 : Launch) (D : GG) (m : Nat) (V : WV)  : Ct l0 D y_MO_keep b_MO_keep 2 (Option.some FieldType.int) ({ frames := 1, cells := 0, slots := 0, locals := 20 } : Room) [.ref m] (fun H => isO D H m V) (rA m (m + 12)) 0 0 (q_MO_keep D m V) := by
  refine Ct.of (L := [(0, .ref m)]) (by decide) (Nat.le_of_ble_eq_true rfl) rfl (fun M H ho hr hnm hH hpre => ?_)
  have hW := hpre
  obtain ⟨o_fo, o_di, o_az, o_t, o_b, o_p, o_u, o_c, o_e, o_y, a_o, a_n, a_h, a_s, a_t, a_b, a_p, a_u, a_x, a_c, a_e, a_y, a_k⟩ := id hW
  have n_o := a_n.ok
  have n_1 := n_o.1
  have n_2 := n_o.2.1
  have n_3 := n_o.2.2
  have h_b := a_h.b
  obtain ⟨n_f, n_a, n_r, n_p⟩ := id a_n
  obtain ⟨s_f, s_a, s_r⟩ := id a_s
  refine x_iconst ho d_MO_keep_0 ?_
  refine x_istore_n (L' := [(1, zV 0), (0, .ref m)]) ho d_MO_keep_1 (by decide) rfl ?_
  have loop_2 : ∀ (kk : Nat) (x : Int) (H_1 : Heap) (l_o : At D H_1 m (oO 11 [.ref (m + 1), .ref (m + 2), zV ((V.2.2.2.1.length : Int)), .ref (m + 3), zV V.2.2.1, .ref (m + 4), .ref (m + 5), .ref (m + 6), zV o_fo, .ref (m + 7), zV o_di, zV ((V.2.2.2.2.length : Int)), .ref (m + 8), zV o_az, .ref (m + 9), .ref (m + 10), .ref (m + 11)])) (l_n : isN D H_1 (m + 1) V.1) (l_h : isHm D H_1 (m + 2) V.2.2.2.1) (l_t : At D H_1 (m + 4) (oI D 301 o_t)) (l_b : At D H_1 (m + 5) (oI D 301 o_b)) (l_p : At D H_1 (m + 6) (oI D 300 o_p)) (l_u : At D H_1 (m + 7) (oI D 300 o_u)) (l_x : isTx D H_1 (m + 8) V.2.2.2.2) (l_c : At D H_1 (m + 9) (oI D 16 o_c)) (l_e : At D H_1 (m + 10) (oI D 16 o_e)) (l_y : At D H_1 (m + 11) (oI D 4 o_y)) (l_m : At D H_1 (m + 1) (oI D 358 n_f)) (l_d : At D H_1 (m + 3) (oI D 358 (zC n_f s_f 0 0 x))) (x0 : 0 ≤ x ∧ x ≤ 358), (358 - x).toNat < kk → X M ({ frames := 1, cells := 0, slots := 0, locals := 20 } : Room) 2 (rA m (m + 12)) 0 0 (Qof M (rA m (m + 12)) (q_MO_keep D m V) 0 0) 2 [(1, zV x), (0, .ref m)] [] H_1 := by
    intro kk
    induction kk with
    | zero => intro x H_1 l_o l_n l_h l_t l_b l_p l_u l_x l_c l_e l_y l_m l_d x0 hk; exact absurd hk (Nat.not_lt_zero _)
    | succ kk ih_2 =>
      intro x H_1 l_o l_n l_h l_t l_b l_p l_u l_x l_c l_e l_y l_m l_d x0 hk_2
      refine x_iload_n ho 0 d_MO_keep_2 rfl ?_
      refine x_sipush (z := 358) ho d_MO_keep_3 (by decide) ?_
      refine x_icmp_ge (tgt := 27) ho d_MO_keep_6 (by decide) (by omega) (by omega) (fun c_6 => ?_) (fun c_6 => ?_)
      ·
        refine x_aload_n ho 1 d_MO_keep_27 rfl ?_
        refine x_iconst ho d_MO_keep_28 ?_
        refine x_put 4 ho d_MO_keep_29 cl_MO (by decide) g_761 l_o rfl (by decide) rfl (Nat.le_of_ble_eq_true rfl) (rA_in (by omega) (by omega)) (fun H_2 p_3 z_4 q_5 => ?_)
        have k_6 := l_n.kept (q_5 _ (by omega))
        have k_7 := l_h.kept (q_5 _ (by omega))
        have k_8 := l_t.kept (q_5 _ (by omega))
        have k_9 := l_b.kept (q_5 _ (by omega))
        have k_10 := l_p.kept (q_5 _ (by omega))
        have k_11 := l_u.kept (q_5 _ (by omega))
        have k_12 := l_x.kept (q_5 _ (by omega))
        have k_13 := l_c.kept (q_5 _ (by omega))
        have k_14 := l_e.kept (q_5 _ (by omega))
        have k_15 := l_y.kept (q_5 _ (by omega))
        have k_16 := l_m.kept (q_5 _ (by omega))
        have k_17 := l_d.kept (q_5 _ (by omega))
        refine x_aload_n ho 1 d_MO_keep_32 rfl ?_
        refine x_callV (rest := []) ho d_MO_keep_33 yv_MO_length g_862 g_31 g_861 (c_MO_length M.2.1 D m ((V.2.2.2.1.length : Int)) 1 o_fo o_di ((V.2.2.2.2.length : Int)) o_az V.1 ) rfl rfl ⟨Nat.le_of_ble_eq_true rfl, Nat.le_of_ble_eq_true rfl⟩ ⟨Nat.le_of_ble_eq_true rfl, Nat.le_of_ble_eq_true rfl⟩ rfl rfl (Nat.le_of_ble_eq_true rfl) p_3 rfl rfl ⟨p_3, k_6⟩ fr_none' (x_rd (fun v_18 hv_18 => ?_))
        obtain ⟨rfl, lb_20⟩ := hv_18
        show X _ _ _ _ _ _ _ _ _ [zV ((V.1.2.1.length : Int))] _
        refine x_iret ho hr d_MO_keep_36 ?_
        exact ⟨rfl, isO_mk p_3 k_6 k_7 ⟨_, k_17, fun _ => ⟨rpS_all (rpS_off n_r) n_p (by omega), n_p⟩⟩ k_8 k_9 k_10 k_11 k_12 k_13 k_14 k_15 (Or.inr rfl)⟩
      ·
        refine x_aload_n ho 1 d_MO_keep_9 rfl ?_
        refine x_get 3 ho d_MO_keep_10 cl_MO (by decide) g_760 l_o rfl ?_
        refine x_iload_n ho 0 d_MO_keep_13 rfl ?_
        refine x_aload_n ho 1 d_MO_keep_14 rfl ?_
        refine x_get 0 ho d_MO_keep_15 cl_MO (by decide) g_757 l_o rfl ?_
        refine x_iload_n ho 0 d_MO_keep_18 rfl ?_
        refine x_iald ho d_MO_keep_19 l_m (by omega) (by omega) (by omega) ?_
        refine x_iast ho d_MO_keep_20 l_d (by omega) (by omega) (by omega) (rA_in (by omega) (by omega)) (fun H_21 p_22 z_23 q_24 => ?_)
        have k_25 := l_o.kept (q_24 _ (by omega))
        have k_26 := l_n.kept (q_24 _ (by omega))
        have k_27 := l_h.kept (q_24 _ (by omega))
        have k_28 := l_t.kept (q_24 _ (by omega))
        have k_29 := l_b.kept (q_24 _ (by omega))
        have k_30 := l_p.kept (q_24 _ (by omega))
        have k_31 := l_u.kept (q_24 _ (by omega))
        have k_32 := l_x.kept (q_24 _ (by omega))
        have k_33 := l_c.kept (q_24 _ (by omega))
        have k_34 := l_e.kept (q_24 _ (by omega))
        have k_35 := l_y.kept (q_24 _ (by omega))
        have k_36 := l_m.kept (q_24 _ (by omega))
        refine x_iinc (L' := [(1, zV (x + 1)), (0, .ref m)]) ho 0 d_MO_keep_21 rfl rfl (by decide) rfl ?_
        refine x_goto (tgt := 2) ho d_MO_keep_24 (by decide) ?_
        exact ih_2 (x + 1) H_21 k_25 k_26 k_27 k_28 k_29 k_30 k_31 k_32 k_33 k_34 k_35 k_36 (zC_at p_22 (by omega) (by omega) (by first | rfl | (congr 1; omega))) (by omega) (by omega)
  exact loop_2 _ 0 H a_o a_n a_h a_t a_b a_p a_u a_x a_c a_e a_y n_a (by rw [zC_0]; exact s_a) (by omega) (Nat.lt_succ_self _)
def q_MO_restore (D : GG) (m : Nat) (V : WV) : Option Value → Heap → Prop := fun v0 H => v0 = some (zV ((m_restore V).1)) ∧ isO D H m ((m_restore V).2)
theorem yv_MO_restore : Yv y_MO_restore b_MO_restore 2 (Option.some FieldType.int) 0 := ⟨g_933, g_65, by decide, by decide +kernel⟩
set_option maxHeartbeats 4000000 in
set_option maxRecDepth 100000 in
theorem c_MO_restore (l0 : Launch) (D : GG) (m : Nat) (V : WV)  : Ct l0 D y_MO_restore b_MO_restore 2 (Option.some FieldType.int) ({ frames := 1, cells := 0, slots := 0, locals := 21 } : Room) [.ref m] (fun H => isO D H m V) (rA m (m + 12)) 0 0 (q_MO_restore D m V) := by
  refine Ct.of (L := [(0, .ref m)]) (by decide) (Nat.le_of_ble_eq_true rfl) rfl (fun M H ho hr hnm hH hpre => ?_)
  have hW := hpre
  obtain ⟨o_fo, o_di, o_az, o_t, o_b, o_p, o_u, o_c, o_e, o_y, a_o, a_n, a_h, a_s, a_t, a_b, a_p, a_u, a_x, a_c, a_e, a_y, a_k⟩ := id hW
  have n_o := a_n.ok
  have n_1 := n_o.1
  have n_2 := n_o.2.1
  have n_3 := n_o.2.2
  have h_b := a_h.b
  obtain ⟨s_f, s_a, s_r⟩ := id a_s
  refine x_aload_n ho 0 d_MO_restore_0 rfl ?_
  refine x_get 4 ho d_MO_restore_1 cl_MO (by decide) g_761 a_o rfl ?_
  refine x_if_ne (tgt := 10) ho d_MO_restore_4 (by decide) (by omega) (fun c_4 => ?_) (fun c_4 => ?_)
  ·
    refine x_aload_n ho 0 d_MO_restore_10 rfl ?_
    refine x_callV (rest := []) ho d_MO_restore_11 yv_MO_record g_835 g_28 g_834 (c_MO_record M.2.1 D m V.2.2.1 o_fo o_di ((V.2.2.2.2.length : Int)) o_az V.1 V.2.2.2.1 ) rfl rfl ⟨Nat.le_of_ble_eq_true rfl, Nat.le_of_ble_eq_true rfl⟩ ⟨Nat.le_of_ble_eq_true rfl, Nat.le_of_ble_eq_true rfl⟩ rfl rfl (Nat.le_of_ble_eq_true rfl) a_o rfl rfl ⟨a_o, a_n, a_h⟩ (rA_sub (by omega) (by omega)) (fun v_1 H_3 hv_1 f_2 => ?_)
    have k_4 := a_s.kept (f_2.2 _ a_s.lt (rA_no (by omega)))
    have k_5 := a_t.kept (f_2.2 _ a_t.lt (rA_no (by omega)))
    have k_6 := a_b.kept (f_2.2 _ a_b.lt (rA_no (by omega)))
    have k_7 := a_p.kept (f_2.2 _ a_p.lt (rA_no (by omega)))
    have k_8 := a_u.kept (f_2.2 _ a_u.lt (rA_no (by omega)))
    have k_9 := a_x.kept (f_2.2 _ a_x.lt (rA_no (by omega)))
    have k_10 := a_c.kept (f_2.2 _ a_c.lt (rA_no (by omega)))
    have k_11 := a_e.kept (f_2.2 _ a_e.lt (rA_no (by omega)))
    have k_12 := a_y.kept (f_2.2 _ a_y.lt (rA_no (by omega)))
    have k_13 := s_a.kept (f_2.2 _ s_a.lt (rA_no (by omega)))
    obtain ⟨rfl, t_o_14, t_n_15, t_h_16⟩ := hv_1
    show X _ _ _ _ _ _ _ _ _ [] _
    obtain ⟨g_f, g_a, g_r, g_p⟩ := id t_n_15
    have hk1 : V.2.2.1 = 1 := by omega
    obtain ⟨q_r, q_o⟩ := s_r hk1
    refine x_iconst ho d_MO_restore_14 ?_
    refine x_istore_n (L' := [(1, zV 0), (0, .ref m)]) ho d_MO_restore_15 (by decide) rfl ?_
    have loop_16 : ∀ (kk : Nat) (x : Int) (H_17 : Heap) (l_o : At D H_17 m (oO 11 [.ref (m + 1), .ref (m + 2), zV (((recH V.2.2.2.1 V.1).length : Int)), .ref (m + 3), zV V.2.2.1, .ref (m + 4), .ref (m + 5), .ref (m + 6), zV o_fo, .ref (m + 7), zV o_di, zV ((V.2.2.2.2.length : Int)), .ref (m + 8), zV o_az, .ref (m + 9), .ref (m + 10), .ref (m + 11)])) (l_h : isHm D H_17 (m + 2) (recH V.2.2.2.1 V.1)) (l_s : isSl D H_17 (m + 3) V.2.2.1 V.2.1) (l_t : At D H_17 (m + 4) (oI D 301 o_t)) (l_b : At D H_17 (m + 5) (oI D 301 o_b)) (l_p : At D H_17 (m + 6) (oI D 300 o_p)) (l_u : At D H_17 (m + 7) (oI D 300 o_u)) (l_x : isTx D H_17 (m + 8) V.2.2.2.2) (l_c : At D H_17 (m + 9) (oI D 16 o_c)) (l_e : At D H_17 (m + 10) (oI D 16 o_e)) (l_y : At D H_17 (m + 11) (oI D 4 o_y)) (l_m : At D H_17 (m + 3) (oI D 358 s_f)) (l_d : At D H_17 (m + 1) (oI D 358 (zC s_f g_f 0 0 x))) (x0 : 0 ≤ x ∧ x ≤ 358), (358 - x).toNat < kk → X M ({ frames := 1, cells := 0, slots := 0, locals := 21 } : Room) 2 (rA m (m + 12)) 0 0 (Qof M (rA m (m + 12)) (q_MO_restore D m V) 0 0) 16 [(1, zV x), (0, .ref m)] [] H_17 := by
      intro kk
      induction kk with
      | zero => intro x H_17 l_o l_h l_s l_t l_b l_p l_u l_x l_c l_e l_y l_m l_d x0 hk; exact absurd hk (Nat.not_lt_zero _)
      | succ kk ih_16 =>
        intro x H_17 l_o l_h l_s l_t l_b l_p l_u l_x l_c l_e l_y l_m l_d x0 hk_16
        refine x_iload_n ho 0 d_MO_restore_16 rfl ?_
        refine x_sipush (z := 358) ho d_MO_restore_17 (by decide) ?_
        refine x_icmp_ge (tgt := 41) ho d_MO_restore_20 (by decide) (by omega) (by omega) (fun c_20 => ?_) (fun c_20 => ?_)
        ·
          have hN : isN D H_17 (m + 1) V.2.1 := ⟨_, l_d, rpS_all (rpS_off q_r) q_o (by omega), q_o⟩
          refine x_aload_n ho 1 d_MO_restore_41 rfl ?_
          refine x_callV (rest := []) ho d_MO_restore_42 yv_MO_length g_862 g_31 g_861 (c_MO_length M.2.1 D m (((recH V.2.2.2.1 V.1).length : Int)) V.2.2.1 o_fo o_di ((V.2.2.2.2.length : Int)) o_az V.2.1 ) rfl rfl ⟨Nat.le_of_ble_eq_true rfl, Nat.le_of_ble_eq_true rfl⟩ ⟨Nat.le_of_ble_eq_true rfl, Nat.le_of_ble_eq_true rfl⟩ rfl rfl (Nat.le_of_ble_eq_true rfl) l_o rfl rfl ⟨l_o, hN⟩ fr_none' (x_rd (fun v_18 hv_18 => ?_))
          obtain ⟨rfl, lb_20⟩ := hv_18
          show X _ _ _ _ _ _ _ _ _ [zV ((V.2.1.2.1.length : Int))] _
          refine x_iret ho hr d_MO_restore_45 ?_
          have e : m_restore V = ((V.2.1.2.1.length : Int), act V.2.1 V) := by unfold m_restore; rw [cif_f (c_4)]
          exact ⟨by rw [e], by rw [e]; exact isO_mk l_o hN l_h l_s l_t l_b l_p l_u l_x l_c l_e l_y a_k⟩
        ·
          refine x_aload_n ho 1 d_MO_restore_23 rfl ?_
          refine x_get 0 ho d_MO_restore_24 cl_MO (by decide) g_757 l_o rfl ?_
          refine x_iload_n ho 0 d_MO_restore_27 rfl ?_
          refine x_aload_n ho 1 d_MO_restore_28 rfl ?_
          refine x_get 3 ho d_MO_restore_29 cl_MO (by decide) g_760 l_o rfl ?_
          refine x_iload_n ho 0 d_MO_restore_32 rfl ?_
          refine x_iald ho d_MO_restore_33 l_m (by omega) (by omega) (by omega) ?_
          refine x_iast ho d_MO_restore_34 l_d (by omega) (by omega) (by omega) (rA_in (by omega) (by omega)) (fun H_21 p_22 z_23 q_24 => ?_)
          have k_25 := l_o.kept (q_24 _ (by omega))
          have k_26 := l_h.kept (q_24 _ (by omega))
          have k_27 := l_s.kept (q_24 _ (by omega))
          have k_28 := l_t.kept (q_24 _ (by omega))
          have k_29 := l_b.kept (q_24 _ (by omega))
          have k_30 := l_p.kept (q_24 _ (by omega))
          have k_31 := l_u.kept (q_24 _ (by omega))
          have k_32 := l_x.kept (q_24 _ (by omega))
          have k_33 := l_c.kept (q_24 _ (by omega))
          have k_34 := l_e.kept (q_24 _ (by omega))
          have k_35 := l_y.kept (q_24 _ (by omega))
          have k_36 := l_m.kept (q_24 _ (by omega))
          refine x_iinc (L' := [(1, zV (x + 1)), (0, .ref m)]) ho 0 d_MO_restore_35 rfl rfl (by decide) rfl ?_
          refine x_goto (tgt := 16) ho d_MO_restore_38 (by decide) ?_
          exact ih_16 (x + 1) H_21 k_25 k_26 k_27 k_28 k_29 k_30 k_31 k_32 k_33 k_34 k_35 k_36 (zC_at p_22 (by omega) (by omega) (by first | rfl | (congr 1; omega))) (by omega) (by omega)
    exact loop_16 _ 0 H_3 t_o_14 t_h_16 k_4 k_5 k_6 k_7 k_8 k_9 k_10 k_11 k_12 k_13 (by rw [zC_0]; exact g_a) (by omega) (Nat.lt_succ_self _)
  ·
    refine x_bipush (z := (-5)) ho d_MO_restore_7 (by decide) ?_
    refine x_iret ho hr d_MO_restore_9 ?_
    have e : m_restore V = (-5, V) := by unfold m_restore; rw [cif_t (c_4)]
    exact ⟨by rw [e], by rw [e]; exact isO_mk a_o a_n a_h a_s a_t a_b a_p a_u a_x a_c a_e a_y a_k⟩
def q_MO_start (D : GG) (m : Nat) (V : WV) (z1 : Int) : Option Value → Heap → Prop := fun v0 H => v0 = some (zV ((m_start z1 V).1)) ∧ isO D H m ((m_start z1 V).2)
theorem yv_MO_start : Yv y_MO_start b_MO_start 3 (Option.some FieldType.int) 1 := ⟨g_870, g_65, by decide, by decide +kernel⟩
set_option maxHeartbeats 4000000 in
set_option maxRecDepth 100000 in
theorem c_MO_start (l0 : Launch) (D : GG) (m : Nat) (V : WV) (z1 : Int) (hz1 : -2147483648 ≤ z1 ∧ z1 ≤ 2147483647) : Ct l0 D y_MO_start b_MO_start 3 (Option.some FieldType.int) ({ frames := 2, cells := 0, slots := 0, locals := 42 } : Room) [.ref m, zV z1] (fun H => isO D H m V) (rA m (m + 12)) 0 0 (q_MO_start D m V z1) := by
  refine Ct.of (L := [(0, .ref m), (1, zV z1)]) (by decide) (Nat.le_of_ble_eq_true rfl) rfl (fun M H ho hr hnm hH hpre => ?_)
  have hW := hpre
  obtain ⟨o_fo, o_di, o_az, o_t, o_b, o_p, o_u, o_c, o_e, o_y, a_o, a_n, a_h, a_s, a_t, a_b, a_p, a_u, a_x, a_c, a_e, a_y, a_k⟩ := id hW
  have n_o := a_n.ok
  have n_1 := n_o.1
  have n_2 := n_o.2.1
  have n_3 := n_o.2.2
  have h_b := a_h.b
  refine x_iload_n ho 1 d_MO_start_0 rfl ?_
  refine x_callS (rest := []) ho d_MO_start_1 yv_MO_no g_856 g_855 (c_MO_no M.2.1 D z1 (by omega)) rfl rfl ⟨Nat.le_of_ble_eq_true rfl, Nat.le_of_ble_eq_true rfl⟩ ⟨Nat.le_of_ble_eq_true rfl, Nat.le_of_ble_eq_true rfl⟩ rfl rfl (Nat.le_of_ble_eq_true rfl) trivial fr_none' (x_rd (fun v_1 hv_1 => ?_))
  obtain rfl := hv_1
  show X _ _ _ _ _ _ _ _ _ [zV (bI (¬ isA z1))] _
  refine x_if_eqB (tgt := 9) ho d_MO_start_4 (by decide) (fun c_4 => ?_) (fun c_4 => ?_)
  ·
    have z_4 : isA z1 := Classical.not_not.mp c_4
    refine x_aload_n ho 0 d_MO_start_9 rfl ?_
    refine x_callV (rest := []) ho d_MO_start_10 yv_MO_length g_862 g_31 g_861 (c_MO_length M.2.1 D m ((V.2.2.2.1.length : Int)) V.2.2.1 o_fo o_di ((V.2.2.2.2.length : Int)) o_az V.1 ) rfl rfl ⟨Nat.le_of_ble_eq_true rfl, Nat.le_of_ble_eq_true rfl⟩ ⟨Nat.le_of_ble_eq_true rfl, Nat.le_of_ble_eq_true rfl⟩ rfl rfl (Nat.le_of_ble_eq_true rfl) a_o rfl rfl ⟨a_o, a_n⟩ fr_none' (x_rd (fun v_3 hv_3 => ?_))
    obtain ⟨rfl, lb_5⟩ := hv_3
    show X _ _ _ _ _ _ _ _ _ [zV ((V.1.2.1.length : Int))] _
    refine x_istore_n (L' := [(2, zV ((V.1.2.1.length : Int))), (0, .ref m), (1, zV z1)]) ho d_MO_start_13 (by decide) rfl ?_
    refine x_iload_n ho 0 d_MO_start_14 rfl ?_
    refine x_iconst ho d_MO_start_15 ?_
    refine x_icmp_ne (tgt := 31) ho d_MO_start_16 (by decide) (by omega) (by omega) (fun c_16 => ?_) (fun c_16 => ?_)
    ·
      have z_5 : ¬ [z1] = V.1.2.1 := fun q => c_16 (by rw [← q]; rfl)
      refine x_aload_n ho 1 d_MO_start_31 rfl ?_
      refine x_callV (rest := []) ho d_MO_start_32 yv_MO_record g_835 g_28 g_834 (c_MO_record M.2.1 D m V.2.2.1 o_fo o_di ((V.2.2.2.2.length : Int)) o_az V.1 V.2.2.2.1 ) rfl rfl ⟨Nat.le_of_ble_eq_true rfl, Nat.le_of_ble_eq_true rfl⟩ ⟨Nat.le_of_ble_eq_true rfl, Nat.le_of_ble_eq_true rfl⟩ rfl rfl (Nat.le_of_ble_eq_true rfl) a_o rfl rfl ⟨a_o, a_n, a_h⟩ (rA_sub (by omega) (by omega)) (fun v_6 H_8 hv_6 f_7 => ?_)
      have k_9 := a_s.kept (f_7.2 _ a_s.lt (rA_no (by omega)))
      have k_10 := a_t.kept (f_7.2 _ a_t.lt (rA_no (by omega)))
      have k_11 := a_b.kept (f_7.2 _ a_b.lt (rA_no (by omega)))
      have k_12 := a_p.kept (f_7.2 _ a_p.lt (rA_no (by omega)))
      have k_13 := a_u.kept (f_7.2 _ a_u.lt (rA_no (by omega)))
      have k_14 := a_x.kept (f_7.2 _ a_x.lt (rA_no (by omega)))
      have k_15 := a_c.kept (f_7.2 _ a_c.lt (rA_no (by omega)))
      have k_16 := a_e.kept (f_7.2 _ a_e.lt (rA_no (by omega)))
      have k_17 := a_y.kept (f_7.2 _ a_y.lt (rA_no (by omega)))
      obtain ⟨rfl, t_o_18, t_n_19, t_h_20⟩ := hv_6
      show X _ _ _ _ _ _ _ _ _ [] _
      obtain ⟨g_f, g_a, g_r, g_p⟩ := id t_n_19
      refine x_aload_n ho 1 d_MO_start_35 rfl ?_
      refine x_get 0 ho d_MO_start_36 cl_MO (by decide) g_757 t_o_18 rfl ?_
      refine x_bipush (z := 36) ho d_MO_start_39 (by decide) ?_
      refine x_iconst ho d_MO_start_41 ?_
      refine x_iast ho d_MO_start_42 g_a (by omega) (by omega) (by omega) (rA_in (by omega) (by omega)) (fun H_21 p_22 z_23 q_24 => ?_)
      have k_25 := k_9.kept (q_24 _ (by omega))
      have k_26 := k_10.kept (q_24 _ (by omega))
      have k_27 := k_11.kept (q_24 _ (by omega))
      have k_28 := k_12.kept (q_24 _ (by omega))
      have k_29 := k_13.kept (q_24 _ (by omega))
      have k_30 := k_14.kept (q_24 _ (by omega))
      have k_31 := k_15.kept (q_24 _ (by omega))
      have k_32 := k_16.kept (q_24 _ (by omega))
      have k_33 := k_17.kept (q_24 _ (by omega))
      have k_34 := t_o_18.kept (q_24 _ (by omega))
      have k_35 := t_h_20.kept (q_24 _ (by omega))
      refine x_aload_n ho 1 d_MO_start_43 rfl ?_
      refine x_get 0 ho d_MO_start_44 cl_MO (by decide) g_757 k_34 rfl ?_
      refine x_bipush (z := 37) ho d_MO_start_47 (by decide) ?_
      refine x_iload_n ho 2 d_MO_start_49 rfl ?_
      refine x_iast ho d_MO_start_50 p_22 (by omega) (by omega) (by omega) (rA_in (by omega) (by omega)) (fun H_36 p_37 z_38 q_39 => ?_)
      have k_40 := k_25.kept (q_39 _ (by omega))
      have k_41 := k_26.kept (q_39 _ (by omega))
      have k_42 := k_27.kept (q_39 _ (by omega))
      have k_43 := k_28.kept (q_39 _ (by omega))
      have k_44 := k_29.kept (q_39 _ (by omega))
      have k_45 := k_30.kept (q_39 _ (by omega))
      have k_46 := k_31.kept (q_39 _ (by omega))
      have k_47 := k_32.kept (q_39 _ (by omega))
      have k_48 := k_33.kept (q_39 _ (by omega))
      have k_49 := k_34.kept (q_39 _ (by omega))
      have k_50 := k_35.kept (q_39 _ (by omega))
      refine x_iload_n ho 0 d_MO_start_51 rfl ?_
      refine x_iret ho hr d_MO_start_52 ?_
      have e : m_start z1 V = ((V.1.2.1.length : Int), act (V.1.1, [z1], V.1.2.2) V) := by unfold m_start; rw [cif_t (z_4), cif_f (z_5)]
      exact ⟨by rw [e], by rw [e]; exact isO_mk k_49 ⟨_, p_37, rp_start g_r g_p, ok_start g_p z_4⟩ k_50 k_40 k_41 k_42 k_43 k_44 k_45 k_46 k_47 k_48 a_k⟩
    ·
      refine x_aload_n ho 1 d_MO_start_19 rfl ?_
      refine x_iconst ho d_MO_start_20 ?_
      refine x_callV (rest := []) ho d_MO_start_21 yv_MO_word g_865 g_32 g_864 (c_MO_word M.2.1 D m ((V.2.2.2.1.length : Int)) V.2.2.1 o_fo o_di ((V.2.2.2.2.length : Int)) o_az V.1 0 (by omega)) rfl rfl ⟨Nat.le_of_ble_eq_true rfl, Nat.le_of_ble_eq_true rfl⟩ ⟨Nat.le_of_ble_eq_true rfl, Nat.le_of_ble_eq_true rfl⟩ rfl rfl (Nat.le_of_ble_eq_true rfl) a_o rfl rfl ⟨a_o, a_n⟩ fr_none' (x_rd (fun v_51 hv_51 => ?_))
      obtain ⟨rfl, gb_53⟩ := hv_51
      show X _ _ _ _ _ _ _ _ _ [zV (gA V.1.2.1 0)] _
      refine x_iload_n ho 2 d_MO_start_24 rfl ?_
      refine x_icmp_ne (tgt := 31) ho d_MO_start_25 (by decide) (by omega) (by omega) (fun c_25 => ?_) (fun c_25 => ?_)
      ·
        have z_5 : ¬ [z1] = V.1.2.1 := fun q => c_25 (by rw [← q]; rfl)
        refine x_aload_n ho 1 d_MO_start_31 rfl ?_
        refine x_callV (rest := []) ho d_MO_start_32 yv_MO_record g_835 g_28 g_834 (c_MO_record M.2.1 D m V.2.2.1 o_fo o_di ((V.2.2.2.2.length : Int)) o_az V.1 V.2.2.2.1 ) rfl rfl ⟨Nat.le_of_ble_eq_true rfl, Nat.le_of_ble_eq_true rfl⟩ ⟨Nat.le_of_ble_eq_true rfl, Nat.le_of_ble_eq_true rfl⟩ rfl rfl (Nat.le_of_ble_eq_true rfl) a_o rfl rfl ⟨a_o, a_n, a_h⟩ (rA_sub (by omega) (by omega)) (fun v_54 H_56 hv_54 f_55 => ?_)
        have k_57 := a_s.kept (f_55.2 _ a_s.lt (rA_no (by omega)))
        have k_58 := a_t.kept (f_55.2 _ a_t.lt (rA_no (by omega)))
        have k_59 := a_b.kept (f_55.2 _ a_b.lt (rA_no (by omega)))
        have k_60 := a_p.kept (f_55.2 _ a_p.lt (rA_no (by omega)))
        have k_61 := a_u.kept (f_55.2 _ a_u.lt (rA_no (by omega)))
        have k_62 := a_x.kept (f_55.2 _ a_x.lt (rA_no (by omega)))
        have k_63 := a_c.kept (f_55.2 _ a_c.lt (rA_no (by omega)))
        have k_64 := a_e.kept (f_55.2 _ a_e.lt (rA_no (by omega)))
        have k_65 := a_y.kept (f_55.2 _ a_y.lt (rA_no (by omega)))
        obtain ⟨rfl, t_o_66, t_n_67, t_h_68⟩ := hv_54
        show X _ _ _ _ _ _ _ _ _ [] _
        obtain ⟨g_f, g_a, g_r, g_p⟩ := id t_n_67
        refine x_aload_n ho 1 d_MO_start_35 rfl ?_
        refine x_get 0 ho d_MO_start_36 cl_MO (by decide) g_757 t_o_66 rfl ?_
        refine x_bipush (z := 36) ho d_MO_start_39 (by decide) ?_
        refine x_iconst ho d_MO_start_41 ?_
        refine x_iast ho d_MO_start_42 g_a (by omega) (by omega) (by omega) (rA_in (by omega) (by omega)) (fun H_69 p_70 z_71 q_72 => ?_)
        have k_73 := k_57.kept (q_72 _ (by omega))
        have k_74 := k_58.kept (q_72 _ (by omega))
        have k_75 := k_59.kept (q_72 _ (by omega))
        have k_76 := k_60.kept (q_72 _ (by omega))
        have k_77 := k_61.kept (q_72 _ (by omega))
        have k_78 := k_62.kept (q_72 _ (by omega))
        have k_79 := k_63.kept (q_72 _ (by omega))
        have k_80 := k_64.kept (q_72 _ (by omega))
        have k_81 := k_65.kept (q_72 _ (by omega))
        have k_82 := t_o_66.kept (q_72 _ (by omega))
        have k_83 := t_h_68.kept (q_72 _ (by omega))
        refine x_aload_n ho 1 d_MO_start_43 rfl ?_
        refine x_get 0 ho d_MO_start_44 cl_MO (by decide) g_757 k_82 rfl ?_
        refine x_bipush (z := 37) ho d_MO_start_47 (by decide) ?_
        refine x_iload_n ho 2 d_MO_start_49 rfl ?_
        refine x_iast ho d_MO_start_50 p_70 (by omega) (by omega) (by omega) (rA_in (by omega) (by omega)) (fun H_84 p_85 z_86 q_87 => ?_)
        have k_88 := k_73.kept (q_87 _ (by omega))
        have k_89 := k_74.kept (q_87 _ (by omega))
        have k_90 := k_75.kept (q_87 _ (by omega))
        have k_91 := k_76.kept (q_87 _ (by omega))
        have k_92 := k_77.kept (q_87 _ (by omega))
        have k_93 := k_78.kept (q_87 _ (by omega))
        have k_94 := k_79.kept (q_87 _ (by omega))
        have k_95 := k_80.kept (q_87 _ (by omega))
        have k_96 := k_81.kept (q_87 _ (by omega))
        have k_97 := k_82.kept (q_87 _ (by omega))
        have k_98 := k_83.kept (q_87 _ (by omega))
        refine x_iload_n ho 0 d_MO_start_51 rfl ?_
        refine x_iret ho hr d_MO_start_52 ?_
        have e : m_start z1 V = ((V.1.2.1.length : Int), act (V.1.1, [z1], V.1.2.2) V) := by unfold m_start; rw [cif_t (z_4), cif_f (z_5)]
        exact ⟨by rw [e], by rw [e]; exact isO_mk k_97 ⟨_, p_85, rp_start g_r g_p, ok_start g_p z_4⟩ k_98 k_88 k_89 k_90 k_91 k_92 k_93 k_94 k_95 k_96 a_k⟩
      ·
        refine x_bipush (z := (-5)) ho d_MO_start_28 (by decide) ?_
        refine x_iret ho hr d_MO_start_30 ?_
        have e : m_start z1 V = (-5, V) := by unfold m_start; rw [cif_t (z_4), cif_t (one_eq c_16 c_25)]
        exact ⟨by rw [e], by rw [e]; exact isO_mk a_o a_n a_h a_s a_t a_b a_p a_u a_x a_c a_e a_y a_k⟩
  ·
    have z_4 : ¬ isA z1 := c_4
    refine x_iconst ho d_MO_start_7 ?_
    refine x_iret ho hr d_MO_start_8 ?_
    have e : m_start z1 V = (-1, V) := by unfold m_start; rw [cif_f (z_4)]
    exact ⟨by rw [e], by rw [e]; exact isO_mk a_o a_n a_h a_s a_t a_b a_p a_u a_x a_c a_e a_y a_k⟩
def q_MO_cut (D : GG) (m : Nat) (V : WV) (z1 : Int) : Option Value → Heap → Prop := fun v0 H => v0 = some (zV ((m_cut z1 V).1)) ∧ isO D H m ((m_cut z1 V).2)
theorem yv_MO_cut : Yv y_MO_cut b_MO_cut 3 (Option.some FieldType.int) 1 := ⟨g_890, g_65, by decide, by decide +kernel⟩
set_option maxHeartbeats 4000000 in
set_option maxRecDepth 100000 in
theorem c_MO_cut (l0 : Launch) (D : GG) (m : Nat) (V : WV) (z1 : Int) (hz1 : -2147483648 ≤ z1 ∧ z1 ≤ 2147483647) : Ct l0 D y_MO_cut b_MO_cut 3 (Option.some FieldType.int) ({ frames := 1, cells := 0, slots := 0, locals := 22 } : Room) [.ref m, zV z1] (fun H => isO D H m V) (rA m (m + 12)) 0 0 (q_MO_cut D m V z1) := by
  refine Ct.of (L := [(0, .ref m), (1, zV z1)]) (by decide) (Nat.le_of_ble_eq_true rfl) rfl (fun M H ho hr hnm hH hpre => ?_)
  have hW := hpre
  obtain ⟨o_fo, o_di, o_az, o_t, o_b, o_p, o_u, o_c, o_e, o_y, a_o, a_n, a_h, a_s, a_t, a_b, a_p, a_u, a_x, a_c, a_e, a_y, a_k⟩ := id hW
  have n_o := a_n.ok
  have n_1 := n_o.1
  have n_2 := n_o.2.1
  have n_3 := n_o.2.2
  have h_b := a_h.b
  refine x_aload_n ho 0 d_MO_cut_0 rfl ?_
  refine x_callV (rest := []) ho d_MO_cut_1 yv_MO_length g_862 g_31 g_861 (c_MO_length M.2.1 D m ((V.2.2.2.1.length : Int)) V.2.2.1 o_fo o_di ((V.2.2.2.2.length : Int)) o_az V.1 ) rfl rfl ⟨Nat.le_of_ble_eq_true rfl, Nat.le_of_ble_eq_true rfl⟩ ⟨Nat.le_of_ble_eq_true rfl, Nat.le_of_ble_eq_true rfl⟩ rfl rfl (Nat.le_of_ble_eq_true rfl) a_o rfl rfl ⟨a_o, a_n⟩ fr_none' (x_rd (fun v_1 hv_1 => ?_))
  obtain ⟨rfl, lb_3⟩ := hv_1
  show X _ _ _ _ _ _ _ _ _ [zV ((V.1.2.1.length : Int))] _
  refine x_istore_n (L' := [(2, zV ((V.1.2.1.length : Int))), (0, .ref m), (1, zV z1)]) ho d_MO_cut_4 (by decide) rfl ?_
  refine x_iload_n ho 2 d_MO_cut_5 rfl ?_
  refine x_iconst ho d_MO_cut_6 ?_
  refine x_iload_n ho 0 d_MO_cut_7 rfl ?_
  refine x_callS (rest := []) ho d_MO_cut_8 yv_MO_in g_823 g_822 (c_MO_in M.2.1 D z1 1 ((V.1.2.1.length : Int)) (by omega) (by omega) (by omega)) rfl rfl ⟨Nat.le_of_ble_eq_true rfl, Nat.le_of_ble_eq_true rfl⟩ ⟨Nat.le_of_ble_eq_true rfl, Nat.le_of_ble_eq_true rfl⟩ rfl rfl (Nat.le_of_ble_eq_true rfl) trivial fr_none' (x_rd (fun v_4 hv_4 => ?_))
  obtain rfl := hv_4
  show X _ _ _ _ _ _ _ _ _ [zV (bI (1 ≤ z1 ∧ z1 ≤ ((V.1.2.1.length : Int))))] _
  refine x_if_neB (tgt := 17) ho d_MO_cut_11 (by decide) (fun c_11 => ?_) (fun c_11 => ?_)
  ·
    refine x_iload_n ho 2 d_MO_cut_17 rfl ?_
    refine x_iload_n ho 0 d_MO_cut_18 rfl ?_
    refine x_icmp_ne (tgt := 25) ho d_MO_cut_19 (by decide) (by omega) (by omega) (fun c_19 => ?_) (fun c_19 => ?_)
    ·
      refine x_aload_n ho 1 d_MO_cut_25 rfl ?_
      refine x_callV (rest := []) ho d_MO_cut_26 yv_MO_record g_835 g_28 g_834 (c_MO_record M.2.1 D m V.2.2.1 o_fo o_di ((V.2.2.2.2.length : Int)) o_az V.1 V.2.2.2.1 ) rfl rfl ⟨Nat.le_of_ble_eq_true rfl, Nat.le_of_ble_eq_true rfl⟩ ⟨Nat.le_of_ble_eq_true rfl, Nat.le_of_ble_eq_true rfl⟩ rfl rfl (Nat.le_of_ble_eq_true rfl) a_o rfl rfl ⟨a_o, a_n, a_h⟩ (rA_sub (by omega) (by omega)) (fun v_6 H_8 hv_6 f_7 => ?_)
      have k_9 := a_s.kept (f_7.2 _ a_s.lt (rA_no (by omega)))
      have k_10 := a_t.kept (f_7.2 _ a_t.lt (rA_no (by omega)))
      have k_11 := a_b.kept (f_7.2 _ a_b.lt (rA_no (by omega)))
      have k_12 := a_p.kept (f_7.2 _ a_p.lt (rA_no (by omega)))
      have k_13 := a_u.kept (f_7.2 _ a_u.lt (rA_no (by omega)))
      have k_14 := a_x.kept (f_7.2 _ a_x.lt (rA_no (by omega)))
      have k_15 := a_c.kept (f_7.2 _ a_c.lt (rA_no (by omega)))
      have k_16 := a_e.kept (f_7.2 _ a_e.lt (rA_no (by omega)))
      have k_17 := a_y.kept (f_7.2 _ a_y.lt (rA_no (by omega)))
      obtain ⟨rfl, t_o_18, t_n_19, t_h_20⟩ := hv_6
      show X _ _ _ _ _ _ _ _ _ [] _
      obtain ⟨g_f, g_a, g_r, g_p⟩ := id t_n_19
      refine x_aload_n ho 1 d_MO_cut_29 rfl ?_
      refine x_get 0 ho d_MO_cut_30 cl_MO (by decide) g_757 t_o_18 rfl ?_
      refine x_bipush (z := 36) ho d_MO_cut_33 (by decide) ?_
      refine x_iload_n ho 2 d_MO_cut_35 rfl ?_
      refine x_iast ho d_MO_cut_36 g_a (by omega) (by omega) (by omega) (rA_in (by omega) (by omega)) (fun H_21 p_22 z_23 q_24 => ?_)
      have k_25 := k_9.kept (q_24 _ (by omega))
      have k_26 := k_10.kept (q_24 _ (by omega))
      have k_27 := k_11.kept (q_24 _ (by omega))
      have k_28 := k_12.kept (q_24 _ (by omega))
      have k_29 := k_13.kept (q_24 _ (by omega))
      have k_30 := k_14.kept (q_24 _ (by omega))
      have k_31 := k_15.kept (q_24 _ (by omega))
      have k_32 := k_16.kept (q_24 _ (by omega))
      have k_33 := k_17.kept (q_24 _ (by omega))
      have k_34 := t_o_18.kept (q_24 _ (by omega))
      have k_35 := t_h_20.kept (q_24 _ (by omega))
      refine x_iload_n ho 0 d_MO_cut_37 rfl ?_
      refine x_iload_n ho 2 d_MO_cut_38 rfl ?_
      refine x_isub ho d_MO_cut_39 ?_
      refine x_iret ho hr d_MO_cut_40 ?_
      have e : m_cut z1 V = ((V.1.2.1.length : Int) - z1, act (V.1.1, tk V.1.2.1 z1, V.1.2.2) V) := by unfold m_cut; rw [cif_t (c_11), cif_f (tk_ne (by omega))]
      exact ⟨by rw [e], by rw [e]; exact isO_mk k_34 ⟨_, p_22, rp_cut g_r g_p c_11, ok_cut g_p c_11⟩ k_35 k_25 k_26 k_27 k_28 k_29 k_30 k_31 k_32 k_33 a_k⟩
    ·
      refine x_bipush (z := (-5)) ho d_MO_cut_22 (by decide) ?_
      refine x_iret ho hr d_MO_cut_24 ?_
      have e : m_cut z1 V = (-5, V) := by unfold m_cut; rw [cif_t (c_11), cif_t (tk_all (by omega))]
      exact ⟨by rw [e], by rw [e]; exact isO_mk a_o a_n a_h a_s a_t a_b a_p a_u a_x a_c a_e a_y a_k⟩
  ·
    refine x_bipush (z := (-2)) ho d_MO_cut_14 (by decide) ?_
    refine x_iret ho hr d_MO_cut_16 ?_
    have e : m_cut z1 V = (-2, V) := by unfold m_cut; rw [cif_f (c_11)]
    exact ⟨by rw [e], by rw [e]; exact isO_mk a_o a_n a_h a_s a_t a_b a_p a_u a_x a_c a_e a_y a_k⟩
def q_MO_grows (D : GG) (m : Nat) (kp : Int) (fl : Int) (fo : Int) (di : Int) (ty : Int) (az : Int) (v : SV) (t : Int → Int) (b : Int → Int) (w : List Int) : Option Value → Heap → Prop := fun v0 H => ∃ (t1 : Int → Int) (b1 : Int → Int), v0 = none ∧ rpW t1 0 1 (tk (imW v.1 w) 300) ∧ At D H m (oO 11 [.ref (m + 1), .ref (m + 2), zV kp, .ref (m + 3), zV fl, .ref (m + 4), .ref (m + 5), .ref (m + 6), zV fo, .ref (m + 7), zV di, zV ty, .ref (m + 8), zV az, .ref (m + 9), .ref (m + 10), .ref (m + 11)]) ∧ isN D H (m + 1) v ∧ At D H (m + 4) (oI D 301 t1) ∧ At D H (m + 5) (oI D 301 b1)
theorem yv_MO_grows : Yv y_MO_grows b_MO_grows 4 (Option.none : Option FieldType) 0 := ⟨g_880, g_65, by decide, by decide +kernel⟩
set_option maxHeartbeats 4000000 in
set_option maxRecDepth 100000 in
theorem c_MO_grows (l0 : Launch) (D : GG) (m : Nat) (kp : Int) (fl : Int) (fo : Int) (di : Int) (ty : Int) (az : Int) (v : SV) (t : Int → Int) (b : Int → Int) (w : List Int) (ht : rpW t 0 1 w) (hw : 0 ≤ (w.length : Int) ∧ (w.length : Int) ≤ 300 ∧ wf w) : Ct l0 D y_MO_grows b_MO_grows 4 (Option.none : Option FieldType) ({ frames := 1, cells := 0, slots := 0, locals := 22 } : Room) [.ref m] (fun H => At D H m (oO 11 [.ref (m + 1), .ref (m + 2), zV kp, .ref (m + 3), zV fl, .ref (m + 4), .ref (m + 5), .ref (m + 6), zV fo, .ref (m + 7), zV di, zV ty, .ref (m + 8), zV az, .ref (m + 9), .ref (m + 10), .ref (m + 11)]) ∧ isN D H (m + 1) v ∧ At D H (m + 4) (oI D 301 t) ∧ At D H (m + 5) (oI D 301 b)) (rA (m + 4) (m + 6)) 0 0 (q_MO_grows D m kp fl fo di ty az v t b w) := by
  refine Ct.of (L := [(0, .ref m)]) (by decide) (Nat.le_of_ble_eq_true rfl) rfl (fun M H ho hr hnm hH hpre => ?_)
  obtain ⟨t_o, t_n, t_t, t_b⟩ := hpre
  obtain ⟨n_f, n_a, n_r, n_o⟩ := id t_n
  have n_1 := n_o.1
  have n_2 := n_o.2.1
  have n_3 := n_o.2.2
  refine x_iconst ho d_MO_grows_0 ?_
  refine x_istore_n (L' := [(1, zV 0), (0, .ref m)]) ho d_MO_grows_1 (by decide) rfl ?_
  have loop_2 : ∀ (kk : Nat) (x : Int) (H_1 : Heap) (l_o : At D H_1 m (oO 11 [.ref (m + 1), .ref (m + 2), zV kp, .ref (m + 3), zV fl, .ref (m + 4), .ref (m + 5), .ref (m + 6), zV fo, .ref (m + 7), zV di, zV ty, .ref (m + 8), zV az, .ref (m + 9), .ref (m + 10), .ref (m + 11)])) (l_n : isN D H_1 (m + 1) v) (l_t : At D H_1 (m + 4) (oI D 301 t)) (l_d : At D H_1 (m + 5) (oI D 301 (zC t b 0 0 x))) (x0 : 0 ≤ x ∧ x ≤ (w.length : Int) + 1), ((w.length : Int) + 1 - x).toNat < kk → X M ({ frames := 1, cells := 0, slots := 0, locals := 22 } : Room) 4 (rA (m + 4) (m + 6)) 0 0 (Qof M (rA (m + 4) (m + 6)) (q_MO_grows D m kp fl fo di ty az v t b w) 0 0) 2 [(1, zV x), (0, .ref m)] [] H_1 := by
    intro kk
    induction kk with
    | zero => intro x H_1 l_o l_n l_t l_d x0 hk; exact absurd hk (Nat.not_lt_zero _)
    | succ kk ih_2 =>
      intro x H_1 l_o l_n l_t l_d x0 hk_2
      refine x_iload_n ho 0 d_MO_grows_2 rfl ?_
      refine x_aload_n ho 1 d_MO_grows_3 rfl ?_
      refine x_get 5 ho d_MO_grows_4 cl_MO (by decide) g_762 l_o rfl ?_
      refine x_iconst ho d_MO_grows_7 ?_
      refine x_iald ho d_MO_grows_8 l_t (by omega) (by omega) (by omega) ?_
      refine x_eqI (b := (w.length : Int)) (by exact ht.1) ?_
      refine x_icmp_gt (tgt := 30) ho d_MO_grows_9 (by decide) (by omega) (by omega) (fun c_9 => ?_) (fun c_9 => ?_)
      ·
        have hb : rpW (zC t b 0 0 x) 0 1 w := rp_copy0 ht (by omega)
        refine x_iconst ho d_MO_grows_30 ?_
        refine x_istore_n (L' := [(1, zV 0), (0, .ref m)]) ho d_MO_grows_31 (by decide) rfl ?_
        refine x_iconst ho d_MO_grows_32 ?_
        refine x_istore_n (L' := [(2, zV 1), (1, zV 0), (0, .ref m)]) ho d_MO_grows_33 (by decide) rfl ?_
        have loop_34 : ∀ (kk : Nat) (k : Int) (n : Int) (T : Int → Int) (H_2 : Heap) (l_o : At D H_2 m (oO 11 [.ref (m + 1), .ref (m + 2), zV kp, .ref (m + 3), zV fl, .ref (m + 4), .ref (m + 5), .ref (m + 6), zV fo, .ref (m + 7), zV di, zV ty, .ref (m + 8), zV az, .ref (m + 9), .ref (m + 10), .ref (m + 11)])) (l_n : isN D H_2 (m + 1) v) (l_t : At D H_2 (m + 4) (oI D 301 T)) (l_b : At D H_2 (m + 5) (oI D 301 (zC t b 0 0 x))) (k0 : 1 ≤ k ∧ k ≤ (w.length : Int) + 1) (n0 : 0 ≤ n ∧ n ≤ 300) (hn : ((tk (imW v.1 (tk w (k - 1))) 300).length : Int) = n) (hT : ∀ j : Int, 0 ≤ j → j < n → T (1 + j) = gA (tk (imW v.1 (tk w (k - 1))) 300) j), ((w.length : Int) + 1 - k).toNat < kk → X M ({ frames := 1, cells := 0, slots := 0, locals := 22 } : Room) 4 (rA (m + 4) (m + 6)) 0 0 (Qof M (rA (m + 4) (m + 6)) (q_MO_grows D m kp fl fo di ty az v t b w) 0 0) 34 [(2, zV k), (1, zV n), (0, .ref m)] [] H_2 := by
          intro kk
          induction kk with
          | zero => intro k n T H_2 l_o l_n l_t l_b k0 n0 hn hT hk; exact absurd hk (Nat.not_lt_zero _)
          | succ kk ih_34 =>
            intro k n T H_2 l_o l_n l_t l_b k0 n0 hn hT hk_34
            refine x_iload_n ho 0 d_MO_grows_34 rfl ?_
            refine x_aload_n ho 2 d_MO_grows_35 rfl ?_
            refine x_get 6 ho d_MO_grows_36 cl_MO (by decide) g_763 l_o rfl ?_
            refine x_iconst ho d_MO_grows_39 ?_
            refine x_iald ho d_MO_grows_40 l_b (by omega) (by omega) (by omega) ?_
            refine x_eqI (b := (w.length : Int)) (by exact hb.1) ?_
            refine x_icmp_gt (tgt := 99) ho d_MO_grows_41 (by decide) (by omega) (by omega) (fun c_41 => ?_) (fun c_41 => ?_)
            ·
              refine x_aload_n ho 2 d_MO_grows_99 rfl ?_
              refine x_get 5 ho d_MO_grows_100 cl_MO (by decide) g_762 l_o rfl ?_
              refine x_iconst ho d_MO_grows_103 ?_
              refine x_iload_n ho 1 d_MO_grows_104 rfl ?_
              refine x_iast ho d_MO_grows_105 l_t (by omega) (by omega) (by omega) (rA_in (by omega) (by omega)) (fun H_3 p_4 z_5 q_6 => ?_)
              have k_7 := l_o.kept (q_6 _ (by omega))
              have k_8 := l_n.kept (q_6 _ (by omega))
              have k_9 := l_b.kept (q_6 _ (by omega))
              refine x_vret ho hr d_MO_grows_106 ?_
              rw [show k - 1 = (w.length : Int) by omega, tk_all (Int.le_refl _)] at hn hT
              exact ⟨_, _, rfl, ⟨by rw [zU_s]; exact hn.symm, fun j p q => by rw [zU_n _ _ (by omega)]; exact hT j p (by omega)⟩, k_7, k_8, p_4, k_9⟩
            ·
              have hgw := gA_r hw.2.2 (k - 1)
              have hsz := n_1 _ hgw.1 hgw.2
              refine x_iconst ho d_MO_grows_44 ?_
              refine x_istore_n (L' := [(3, zV 0), (2, zV k), (1, zV n), (0, .ref m)]) ho d_MO_grows_45 (by decide) rfl ?_
              have loop_46 : ∀ (kk : Nat) (i : Int) (n : Int) (T : Int → Int) (H_10 : Heap) (l_o : At D H_10 m (oO 11 [.ref (m + 1), .ref (m + 2), zV kp, .ref (m + 3), zV fl, .ref (m + 4), .ref (m + 5), .ref (m + 6), zV fo, .ref (m + 7), zV di, zV ty, .ref (m + 8), zV az, .ref (m + 9), .ref (m + 10), .ref (m + 11)])) (l_n : isN D H_10 (m + 1) v) (l_t : At D H_10 (m + 4) (oI D 301 T)) (l_b : At D H_10 (m + 5) (oI D 301 (zC t b 0 0 x))) (i0 : 0 ≤ i ∧ i ≤ ((v.1 (gA w (k - 1))).length : Int)) (n0 : 0 ≤ n ∧ n ≤ 300) (hn : ((tk (imW v.1 (tk w (k - 1)) ++ tk (v.1 (gA w (k - 1))) i) 300).length : Int) = n) (hT : ∀ j : Int, 0 ≤ j → j < n → T (1 + j) = gA (tk (imW v.1 (tk w (k - 1)) ++ tk (v.1 (gA w (k - 1))) i) 300) j), (((v.1 (gA w (k - 1))).length : Int) - i).toNat < kk → X M ({ frames := 1, cells := 0, slots := 0, locals := 22 } : Room) 4 (rA (m + 4) (m + 6)) 0 0 (Qof M (rA (m + 4) (m + 6)) (q_MO_grows D m kp fl fo di ty az v t b w) 0 0) 46 [(3, zV i), (2, zV k), (1, zV n), (0, .ref m)] [] H_10 := by
                intro kk
                induction kk with
                | zero => intro i n T H_10 l_o l_n l_t l_b i0 n0 hn hT hk; exact absurd hk (Nat.not_lt_zero _)
                | succ kk ih_46 =>
                  intro i n T H_10 l_o l_n l_t l_b i0 n0 hn hT hk_46
                  refine x_iload_n ho 0 d_MO_grows_46 rfl ?_
                  refine x_aload_n ho 3 d_MO_grows_47 rfl ?_
                  refine x_aload_n ho 3 d_MO_grows_48 rfl ?_
                  refine x_get 6 ho d_MO_grows_49 cl_MO (by decide) g_763 l_o rfl ?_
                  refine x_iload_n ho 1 d_MO_grows_52 rfl ?_
                  refine x_iald ho d_MO_grows_53 l_b (by omega) (by omega) (by omega) ?_
                  refine x_eqI (b := gA w (k - 1)) (by have q := hb.2 (k - 1) (by omega) (by omega); rw [show 1 + (k - 1) = k by omega] at q; exact q) ?_
                  refine x_callV (rest := [zV i]) ho d_MO_grows_54 yv_MO_size g_829 g_26 g_828 (c_MO_size M.2.1 D m kp fl fo di ty az v (gA w (k - 1)) (by omega)) rfl rfl ⟨Nat.le_of_ble_eq_true rfl, Nat.le_of_ble_eq_true rfl⟩ ⟨Nat.le_of_ble_eq_true rfl, Nat.le_of_ble_eq_true rfl⟩ rfl rfl (Nat.le_of_ble_eq_true rfl) l_o rfl rfl ⟨l_o, l_n⟩ fr_none' (x_rd (fun v_11 hv_11 => ?_))
                  obtain ⟨rfl, sb_13⟩ := hv_11
                  show X _ _ _ _ _ _ _ _ _ [zV (((v.1 (gA w (k - 1))).length : Int)), zV i] _
                  refine x_icmp_ge (tgt := 93) ho d_MO_grows_57 (by decide) (by omega) (by omega) (fun c_57 => ?_) (fun c_57 => ?_)
                  ·
                    have hen := gr_all (A := imW v.1 (tk w (k - 1))) (B := v.1 (gA w (k - 1))) (i := i) (by omega)
                    refine x_iinc (L' := [(2, zV (k + 1)), (3, zV i), (1, zV n), (0, .ref m)]) ho 1 d_MO_grows_93 rfl rfl (by decide) rfl ?_
                    refine x_goto (tgt := 34) ho d_MO_grows_96 (by decide) ?_
                    refine x_sub (L' := [(2, zV (k + 1)), (1, zV n), (0, .ref m)]) [0, 2, 3] rfl ?_
                    exact ih_34 (k + 1) n T H_10 l_o l_n l_t l_b (by omega) (by omega) (by rw [← gr_x (by omega) (by omega), ← hen]; exact hn) (by rw [← gr_x (by omega) (by omega), ← hen]; exact hT) (by omega)
                  ·
                    refine x_iload_n ho 2 d_MO_grows_60 rfl ?_
                    refine x_sipush (z := 300) ho d_MO_grows_61 (by decide) ?_
                    refine x_icmp_ge (tgt := 93) ho d_MO_grows_64 (by decide) (by omega) (by omega) (fun c_64 => ?_) (fun c_64 => ?_)
                    ·
                      have hen := gr_full (A := imW v.1 (tk w (k - 1))) (B := v.1 (gA w (k - 1))) (i := i) hn (by omega)
                      refine x_iinc (L' := [(2, zV (k + 1)), (3, zV i), (1, zV n), (0, .ref m)]) ho 1 d_MO_grows_93 rfl rfl (by decide) rfl ?_
                      refine x_goto (tgt := 34) ho d_MO_grows_96 (by decide) ?_
                      refine x_sub (L' := [(2, zV (k + 1)), (1, zV n), (0, .ref m)]) [0, 2, 3] rfl ?_
                      exact ih_34 (k + 1) n T H_10 l_o l_n l_t l_b (by omega) (by omega) (by rw [← gr_x (by omega) (by omega), ← hen]; exact hn) (by rw [← gr_x (by omega) (by omega), ← hen]; exact hT) (by omega)
                    ·
                      refine x_iinc (L' := [(1, zV (n + 1)), (3, zV i), (2, zV k), (0, .ref m)]) ho 2 d_MO_grows_67 rfl rfl (by decide) rfl ?_
                      refine x_aload_n ho 3 d_MO_grows_70 rfl ?_
                      refine x_get 5 ho d_MO_grows_71 cl_MO (by decide) g_762 l_o rfl ?_
                      refine x_iload_n ho 0 d_MO_grows_74 rfl ?_
                      refine x_aload_n ho 3 d_MO_grows_75 rfl ?_
                      refine x_aload_n ho 3 d_MO_grows_76 rfl ?_
                      refine x_get 6 ho d_MO_grows_77 cl_MO (by decide) g_763 l_o rfl ?_
                      refine x_iload_n ho 2 d_MO_grows_80 rfl ?_
                      refine x_iald ho d_MO_grows_81 l_b (by omega) (by omega) (by omega) ?_
                      refine x_eqI (b := gA w (k - 1)) (by have q := hb.2 (k - 1) (by omega) (by omega); rw [show 1 + (k - 1) = k by omega] at q; exact q) ?_
                      refine x_iload_n ho 1 d_MO_grows_82 rfl ?_
                      refine x_callV (rest := [zV (n + 1), .ref (m + 4)]) ho d_MO_grows_83 yv_MO_sign g_832 g_27 g_831 (c_MO_sign M.2.1 D m kp fl fo di ty az v (gA w (k - 1)) i (by omega) (by omega)) rfl rfl ⟨Nat.le_of_ble_eq_true rfl, Nat.le_of_ble_eq_true rfl⟩ ⟨Nat.le_of_ble_eq_true rfl, Nat.le_of_ble_eq_true rfl⟩ rfl rfl (Nat.le_of_ble_eq_true rfl) l_o rfl rfl ⟨l_o, l_n⟩ fr_none' (x_rd (fun v_14 hv_14 => ?_))
                      obtain ⟨rfl, gb_16⟩ := hv_14
                      show X _ _ _ _ _ _ _ _ _ [zV (gA (v.1 (gA w (k - 1))) i), zV (n + 1), .ref (m + 4)] _
                      refine x_iast ho d_MO_grows_86 l_t (by omega) (by omega) (by omega) (rA_in (by omega) (by omega)) (fun H_17 p_18 z_19 q_20 => ?_)
                      have k_21 := l_o.kept (q_20 _ (by omega))
                      have k_22 := l_n.kept (q_20 _ (by omega))
                      have k_23 := l_b.kept (q_20 _ (by omega))
                      have hst := gr_step hn (by omega) i0.1 (by omega)
                      refine x_iinc (L' := [(3, zV (i + 1)), (1, zV (n + 1)), (2, zV k), (0, .ref m)]) ho 1 d_MO_grows_87 rfl rfl (by decide) rfl ?_
                      refine x_goto (tgt := 46) ho d_MO_grows_90 (by decide) ?_
                      refine x_sub (L' := [(3, zV (i + 1)), (2, zV k), (1, zV (n + 1)), (0, .ref m)]) [0, 2, 1, 3] rfl ?_
                      exact ih_46 (i + 1) (n + 1) (zU T (n + 1) (gA (v.1 (gA w (k - 1))) i)) H_17 k_21 k_22 p_18 k_23 (by omega) (by omega) (by exact hst.2) (by rw [hst.1]; exact gw_put hT hn) (by omega)
              exact loop_46 _ 0 n T H_2 l_o l_n l_t l_b (by omega) (by omega) (by rw [gw_0]; exact hn) (by rw [gw_0]; exact hT) (Nat.lt_succ_self _)
        exact loop_34 _ 1 0 t H_1 l_o l_n l_t l_d (by omega) (by omega) (by rw [show (1 : Int) - 1 = 0 by omega, tk_0]; rfl) (by exact fun j p q => by omega) (Nat.lt_succ_self _)
      ·
        refine x_aload_n ho 1 d_MO_grows_12 rfl ?_
        refine x_get 6 ho d_MO_grows_13 cl_MO (by decide) g_763 l_o rfl ?_
        refine x_iload_n ho 0 d_MO_grows_16 rfl ?_
        refine x_aload_n ho 1 d_MO_grows_17 rfl ?_
        refine x_get 5 ho d_MO_grows_18 cl_MO (by decide) g_762 l_o rfl ?_
        refine x_iload_n ho 0 d_MO_grows_21 rfl ?_
        refine x_iald ho d_MO_grows_22 l_t (by omega) (by omega) (by omega) ?_
        refine x_iast ho d_MO_grows_23 l_d (by omega) (by omega) (by omega) (rA_in (by omega) (by omega)) (fun H_24 p_25 z_26 q_27 => ?_)
        have k_28 := l_o.kept (q_27 _ (by omega))
        have k_29 := l_n.kept (q_27 _ (by omega))
        have k_30 := l_t.kept (q_27 _ (by omega))
        refine x_iinc (L' := [(1, zV (x + 1)), (0, .ref m)]) ho 0 d_MO_grows_24 rfl rfl (by decide) rfl ?_
        refine x_goto (tgt := 2) ho d_MO_grows_27 (by decide) ?_
        exact ih_2 (x + 1) H_24 k_28 k_29 k_30 (zC_at p_25 (by omega) (by omega) (by first | rfl | (congr 1; omega))) (by omega) (by omega)
  exact loop_2 _ 0 H t_o t_n t_t (by rw [zC_0]; exact t_b) (by omega) (Nat.lt_succ_self _)
def q_MO_grow (D : GG) (m : Nat) (V : WV) (z1 : Int) : Option Value → Heap → Prop := fun v0 H => v0 = some (zV ((m_grow z1 V).1)) ∧ isO D H m ((m_grow z1 V).2)
theorem yv_MO_grow : Yv y_MO_grow b_MO_grow 3 (Option.some FieldType.int) 1 := ⟨g_874, g_65, by decide, by decide +kernel⟩
set_option maxHeartbeats 4000000 in
set_option maxRecDepth 100000 in
theorem c_MO_grow (l0 : Launch) (D : GG) (m : Nat) (V : WV) (z1 : Int) (hz1 : -2147483648 ≤ z1 ∧ z1 ≤ 2147483647) : Ct l0 D y_MO_grow b_MO_grow 3 (Option.some FieldType.int) ({ frames := 2, cells := 0, slots := 0, locals := 45 } : Room) [.ref m, zV z1] (fun H => isO D H m V) (rA m (m + 12)) 0 0 (q_MO_grow D m V z1) := by
  refine Ct.of (L := [(0, .ref m), (1, zV z1)]) (by decide) (Nat.le_of_ble_eq_true rfl) rfl (fun M H ho hr hnm hH hpre => ?_)
  have hW := hpre
  obtain ⟨o_fo, o_di, o_az, o_t, o_b, o_p, o_u, o_c, o_e, o_y, a_o, a_n, a_h, a_s, a_t, a_b, a_p, a_u, a_x, a_c, a_e, a_y, a_k⟩ := id hW
  have n_o := a_n.ok
  have n_1 := n_o.1
  have n_2 := n_o.2.1
  have n_3 := n_o.2.2
  have h_b := a_h.b
  refine x_iload_n ho 1 d_MO_grow_0 rfl ?_
  refine x_iconst ho d_MO_grow_1 ?_
  refine x_bipush (z := 20) ho d_MO_grow_2 (by decide) ?_
  refine x_callS (rest := []) ho d_MO_grow_4 yv_MO_in g_823 g_822 (c_MO_in M.2.1 D z1 1 20 (by omega) (by omega) (by omega)) rfl rfl ⟨Nat.le_of_ble_eq_true rfl, Nat.le_of_ble_eq_true rfl⟩ ⟨Nat.le_of_ble_eq_true rfl, Nat.le_of_ble_eq_true rfl⟩ rfl rfl (Nat.le_of_ble_eq_true rfl) trivial fr_none' (x_rd (fun v_1 hv_1 => ?_))
  obtain rfl := hv_1
  show X _ _ _ _ _ _ _ _ _ [zV (bI (1 ≤ z1 ∧ z1 ≤ 20))] _
  refine x_if_neB (tgt := 13) ho d_MO_grow_7 (by decide) (fun c_7 => ?_) (fun c_7 => ?_)
  ·
    refine x_aload_n ho 0 d_MO_grow_13 rfl ?_
    refine x_callV (rest := []) ho d_MO_grow_14 yv_MO_takesWord g_876 g_33 g_875 (c_MO_takesWord M.2.1 D m ((V.2.2.2.1.length : Int)) V.2.2.1 o_fo o_di ((V.2.2.2.2.length : Int)) o_az V.1 o_t ) rfl rfl ⟨Nat.le_of_ble_eq_true rfl, Nat.le_of_ble_eq_true rfl⟩ ⟨Nat.le_of_ble_eq_true rfl, Nat.le_of_ble_eq_true rfl⟩ rfl rfl (Nat.le_of_ble_eq_true rfl) a_o rfl rfl ⟨a_o, a_n, a_t⟩ (rA_sub (by omega) (by omega)) (fun v_3 H_5 hv_3 f_4 => ?_)
    have k_6 := a_h.kept (f_4.2 _ a_h.lt (rA_no (by omega)))
    have k_7 := a_s.kept (f_4.2 _ a_s.lt (rA_no (by omega)))
    have k_8 := a_b.kept (f_4.2 _ a_b.lt (rA_no (by omega)))
    have k_9 := a_p.kept (f_4.2 _ a_p.lt (rA_no (by omega)))
    have k_10 := a_u.kept (f_4.2 _ a_u.lt (rA_no (by omega)))
    have k_11 := a_x.kept (f_4.2 _ a_x.lt (rA_no (by omega)))
    have k_12 := a_c.kept (f_4.2 _ a_c.lt (rA_no (by omega)))
    have k_13 := a_e.kept (f_4.2 _ a_e.lt (rA_no (by omega)))
    have k_14 := a_y.kept (f_4.2 _ a_y.lt (rA_no (by omega)))
    obtain ⟨t1_15, rfl, ht_16, t_o_17, t_n_18, t_t_19⟩ := hv_3
    show X _ _ _ _ _ _ _ _ _ [] _
    refine x_iconst ho d_MO_grow_17 ?_
    refine x_istore_n (L' := [(2, zV 0), (0, .ref m), (1, zV z1)]) ho d_MO_grow_18 (by decide) rfl ?_
    have loop_19 : ∀ (kk : Nat) (i : Int) (T : Int → Int) (Bf : Int → Int) (H_20 : Heap) (l_o : At D H_20 m (oO 11 [.ref (m + 1), .ref (m + 2), zV ((V.2.2.2.1.length : Int)), .ref (m + 3), zV V.2.2.1, .ref (m + 4), .ref (m + 5), .ref (m + 6), zV o_fo, .ref (m + 7), zV o_di, zV ((V.2.2.2.2.length : Int)), .ref (m + 8), zV o_az, .ref (m + 9), .ref (m + 10), .ref (m + 11)])) (l_n : isN D H_20 (m + 1) V.1) (l_h : isHm D H_20 (m + 2) V.2.2.2.1) (l_s : isSl D H_20 (m + 3) V.2.2.1 V.2.1) (l_t : At D H_20 (m + 4) (oI D 301 T)) (l_b : At D H_20 (m + 5) (oI D 301 Bf)) (l_p : At D H_20 (m + 6) (oI D 300 o_p)) (l_u : At D H_20 (m + 7) (oI D 300 o_u)) (l_x : isTx D H_20 (m + 8) V.2.2.2.2) (l_c : At D H_20 (m + 9) (oI D 16 o_c)) (l_e : At D H_20 (m + 10) (oI D 16 o_e)) (l_y : At D H_20 (m + 11) (oI D 4 o_y)) (i0 : 0 ≤ i ∧ i ≤ z1) (hT : rpW T 0 1 (gwN V.1.1 V.1.2.1 i.toNat)), (z1 - i).toNat < kk → X M ({ frames := 2, cells := 0, slots := 0, locals := 45 } : Room) 3 (rA m (m + 12)) 0 0 (Qof M (rA m (m + 12)) (q_MO_grow D m V z1) 0 0) 19 [(2, zV i), (0, .ref m), (1, zV z1)] [] H_20 := by
      intro kk
      induction kk with
      | zero => intro i T Bf H_20 l_o l_n l_h l_s l_t l_b l_p l_u l_x l_c l_e l_y i0 hT hk; exact absurd hk (Nat.not_lt_zero _)
      | succ kk ih_19 =>
        intro i T Bf H_20 l_o l_n l_h l_s l_t l_b l_p l_u l_x l_c l_e l_y i0 hT hk_19
        refine x_iload_n ho 0 d_MO_grow_19 rfl ?_
        refine x_iload_n ho 2 d_MO_grow_20 rfl ?_
        refine x_icmp_ge (tgt := 34) ho d_MO_grow_21 (by decide) (by omega) (by omega) (fun c_21 => ?_) (fun c_21 => ?_)
        ·
          have hgw := gwN_ok n_1 n_2 z1.toNat
          rw [show i = z1 by omega] at hT
          refine x_aload_n ho 1 d_MO_grow_34 rfl ?_
          refine x_callV (rest := []) ho d_MO_grow_35 yv_MO_isSameWord g_882 g_35 g_881 (c_MO_isSameWord M.2.1 D m ((V.2.2.2.1.length : Int)) V.2.2.1 o_fo o_di ((V.2.2.2.2.length : Int)) o_az V.1 T (gwN V.1.1 V.1.2.1 z1.toNat) (by exact hT) (by exact hgw.2)) rfl rfl ⟨Nat.le_of_ble_eq_true rfl, Nat.le_of_ble_eq_true rfl⟩ ⟨Nat.le_of_ble_eq_true rfl, Nat.le_of_ble_eq_true rfl⟩ rfl rfl (Nat.le_of_ble_eq_true rfl) l_o rfl rfl ⟨l_o, l_n, l_t⟩ fr_none' (x_rd (fun v_21 hv_21 => ?_))
          obtain rfl := hv_21
          show X _ _ _ _ _ _ _ _ _ [zV (bI ((gwN V.1.1 V.1.2.1 z1.toNat) = V.1.2.1))] _
          refine x_if_eqB (tgt := 44) ho d_MO_grow_38 (by decide) (fun c_38 => ?_) (fun c_38 => ?_)
          ·
            refine x_aload_n ho 1 d_MO_grow_44 rfl ?_
            refine x_callV (rest := []) ho d_MO_grow_45 yv_MO_record g_835 g_28 g_834 (c_MO_record M.2.1 D m V.2.2.1 o_fo o_di ((V.2.2.2.2.length : Int)) o_az V.1 V.2.2.2.1 ) rfl rfl ⟨Nat.le_of_ble_eq_true rfl, Nat.le_of_ble_eq_true rfl⟩ ⟨Nat.le_of_ble_eq_true rfl, Nat.le_of_ble_eq_true rfl⟩ rfl rfl (Nat.le_of_ble_eq_true rfl) l_o rfl rfl ⟨l_o, l_n, l_h⟩ (rA_sub (by omega) (by omega)) (fun v_23 H_25 hv_23 f_24 => ?_)
            have k_26 := l_s.kept (f_24.2 _ l_s.lt (rA_no (by omega)))
            have k_27 := l_t.kept (f_24.2 _ l_t.lt (rA_no (by omega)))
            have k_28 := l_b.kept (f_24.2 _ l_b.lt (rA_no (by omega)))
            have k_29 := l_p.kept (f_24.2 _ l_p.lt (rA_no (by omega)))
            have k_30 := l_u.kept (f_24.2 _ l_u.lt (rA_no (by omega)))
            have k_31 := l_x.kept (f_24.2 _ l_x.lt (rA_no (by omega)))
            have k_32 := l_c.kept (f_24.2 _ l_c.lt (rA_no (by omega)))
            have k_33 := l_e.kept (f_24.2 _ l_e.lt (rA_no (by omega)))
            have k_34 := l_y.kept (f_24.2 _ l_y.lt (rA_no (by omega)))
            obtain ⟨rfl, t_o_35, t_n_36, t_h_37⟩ := hv_23
            show X _ _ _ _ _ _ _ _ _ [] _
            refine x_aload_n ho 1 d_MO_grow_48 rfl ?_
            refine x_callV (rest := []) ho d_MO_grow_49 yv_MO_laysWord g_885 g_36 g_884 (c_MO_laysWord M.2.1 D m (((recH V.2.2.2.1 V.1).length : Int)) V.2.2.1 o_fo o_di ((V.2.2.2.2.length : Int)) o_az V.1 T (gwN V.1.1 V.1.2.1 z1.toNat) (by exact hT) (by exact hgw)) rfl rfl ⟨Nat.le_of_ble_eq_true rfl, Nat.le_of_ble_eq_true rfl⟩ ⟨Nat.le_of_ble_eq_true rfl, Nat.le_of_ble_eq_true rfl⟩ rfl rfl (Nat.le_of_ble_eq_true rfl) t_o_35 rfl rfl ⟨t_o_35, t_n_36, k_27⟩ (rA_sub (by omega) (by omega)) (fun v_38 H_40 hv_38 f_39 => ?_)
            have k_41 := k_26.kept (f_39.2 _ k_26.lt (rA_no (by omega)))
            have k_42 := k_28.kept (f_39.2 _ k_28.lt (rA_no (by omega)))
            have k_43 := k_29.kept (f_39.2 _ k_29.lt (rA_no (by omega)))
            have k_44 := k_30.kept (f_39.2 _ k_30.lt (rA_no (by omega)))
            have k_45 := k_31.kept (f_39.2 _ k_31.lt (rA_no (by omega)))
            have k_46 := k_32.kept (f_39.2 _ k_32.lt (rA_no (by omega)))
            have k_47 := k_33.kept (f_39.2 _ k_33.lt (rA_no (by omega)))
            have k_48 := k_34.kept (f_39.2 _ k_34.lt (rA_no (by omega)))
            have k_49 := t_h_37.kept (f_39.2 _ t_h_37.lt (rA_no (by omega)))
            obtain ⟨rfl, t_o_50, t_n_51, t_t_52⟩ := hv_38
            show X _ _ _ _ _ _ _ _ _ [] _
            refine x_aload_n ho 1 d_MO_grow_52 rfl ?_
            refine x_callV (rest := []) ho d_MO_grow_53 yv_MO_length g_862 g_31 g_861 (c_MO_length M.2.1 D m (((recH V.2.2.2.1 V.1).length : Int)) V.2.2.1 o_fo o_di ((V.2.2.2.2.length : Int)) o_az (V.1.1, (gwN V.1.1 V.1.2.1 z1.toNat), V.1.2.2) ) rfl rfl ⟨Nat.le_of_ble_eq_true rfl, Nat.le_of_ble_eq_true rfl⟩ ⟨Nat.le_of_ble_eq_true rfl, Nat.le_of_ble_eq_true rfl⟩ rfl rfl (Nat.le_of_ble_eq_true rfl) t_o_50 rfl rfl ⟨t_o_50, t_n_51⟩ fr_none' (x_rd (fun v_53 hv_53 => ?_))
            obtain ⟨rfl, lb_55⟩ := hv_53
            show X _ _ _ _ _ _ _ _ _ [zV (((gwN V.1.1 V.1.2.1 z1.toNat).length : Int))] _
            refine x_iret ho hr d_MO_grow_56 ?_
            have e : m_grow z1 V = (((gwN V.1.1 V.1.2.1 z1.toNat).length : Int), act (V.1.1, gwN V.1.1 V.1.2.1 z1.toNat, V.1.2.2) V) := by unfold m_grow; rw [cif_t (c_7), cif_f (c_38)]
            exact ⟨by rw [e], by rw [e]; exact isO_mk t_o_50 t_n_51 k_49 k_41 t_t_52 k_42 k_43 k_44 k_45 k_46 k_47 k_48 a_k⟩
          ·
            refine x_bipush (z := (-5)) ho d_MO_grow_41 (by decide) ?_
            refine x_iret ho hr d_MO_grow_43 ?_
            have e : m_grow z1 V = (-5, V) := by unfold m_grow; rw [cif_t (c_7), cif_t (c_38)]
            exact ⟨by rw [e], by rw [e]; exact isO_mk l_o l_n l_h l_s l_t l_b l_p l_u l_x l_c l_e l_y a_k⟩
        ·
          have hgw := gwN_ok n_1 n_2 i.toNat
          refine x_aload_n ho 1 d_MO_grow_24 rfl ?_
          refine x_callV (rest := []) ho d_MO_grow_25 yv_MO_grows g_879 g_34 g_878 (c_MO_grows M.2.1 D m ((V.2.2.2.1.length : Int)) V.2.2.1 o_fo o_di ((V.2.2.2.2.length : Int)) o_az V.1 T Bf (gwN V.1.1 V.1.2.1 i.toNat) (by exact hT) (by exact ⟨by omega, hgw.2⟩)) rfl rfl ⟨Nat.le_of_ble_eq_true rfl, Nat.le_of_ble_eq_true rfl⟩ ⟨Nat.le_of_ble_eq_true rfl, Nat.le_of_ble_eq_true rfl⟩ rfl rfl (Nat.le_of_ble_eq_true rfl) l_o rfl rfl ⟨l_o, l_n, l_t, l_b⟩ (rA_sub (by omega) (by omega)) (fun v_56 H_58 hv_56 f_57 => ?_)
          have k_59 := l_h.kept (f_57.2 _ l_h.lt (rA_no (by omega)))
          have k_60 := l_s.kept (f_57.2 _ l_s.lt (rA_no (by omega)))
          have k_61 := l_p.kept (f_57.2 _ l_p.lt (rA_no (by omega)))
          have k_62 := l_u.kept (f_57.2 _ l_u.lt (rA_no (by omega)))
          have k_63 := l_x.kept (f_57.2 _ l_x.lt (rA_no (by omega)))
          have k_64 := l_c.kept (f_57.2 _ l_c.lt (rA_no (by omega)))
          have k_65 := l_e.kept (f_57.2 _ l_e.lt (rA_no (by omega)))
          have k_66 := l_y.kept (f_57.2 _ l_y.lt (rA_no (by omega)))
          obtain ⟨t1_67, b1_68, rfl, ht_69, t_o_70, t_n_71, t_t_72, t_b_73⟩ := hv_56
          show X _ _ _ _ _ _ _ _ _ [] _
          refine x_iinc (L' := [(2, zV (i + 1)), (0, .ref m), (1, zV z1)]) ho 0 d_MO_grow_28 rfl rfl (by decide) rfl ?_
          refine x_goto (tgt := 19) ho d_MO_grow_31 (by decide) ?_
          exact ih_19 (i + 1) (t1_67) (b1_68) H_58 t_o_70 t_n_71 k_59 k_60 t_t_72 t_b_73 k_61 k_62 k_63 k_64 k_65 k_66 (by omega) (by rw [show (i + 1).toNat = i.toNat + 1 by omega, gwN]; exact ht_69) (by omega)
    exact loop_19 _ 0 (t1_15) o_b H_5 t_o_17 t_n_18 k_6 k_7 t_t_19 k_8 k_9 k_10 k_11 k_12 k_13 k_14 (by omega) (by exact ht_16) (Nat.lt_succ_self _)
  ·
    refine x_bipush (z := (-2)) ho d_MO_grow_10 (by decide) ?_
    refine x_iret ho hr d_MO_grow_12 ?_
    have e : m_grow z1 V = (-2, V) := by unfold m_grow; rw [cif_f (c_7)]
    exact ⟨by rw [e], by rw [e]; exact isO_mk a_o a_n a_h a_s a_t a_b a_p a_u a_x a_c a_e a_y a_k⟩
