def q_MO_swap (D : GG) (m : Nat) (V : WV) (z1 : Int) (z2 : Int) : Option Value → Heap → Prop := fun v0 H => v0 = some (zV ((m_swap z1 z2 V).1)) ∧ isO D H m ((m_swap z1 z2 V).2)
theorem yv_MO_swap : Yv y_MO_swap b_MO_swap 6 (Option.some FieldType.int) 2 := ⟨g_854, g_65, by decide, by decide +kernel⟩
set_option maxHeartbeats 4000000 in
set_option maxRecDepth 100000 in
theorem c_MO_swap (l0 : Launch) (D : GG) (m : Nat) (V : WV) (z1 : Int) (z2 : Int) (hz1 : -2147483648 ≤ z1 ∧ z1 ≤ 2147483647) (hz2 : -2147483648 ≤ z2 ∧ z2 ≤ 2147483647) : Ct l0 D y_MO_swap b_MO_swap 6 (Option.some FieldType.int) ({ frames := 2, cells := 0, slots := 0, locals := 42 } : Room) [.ref m, zV z1, zV z2] (fun H => isO D H m V) (rA m (m + 12)) 0 0 (q_MO_swap D m V z1 z2) := by
  refine Ct.of (L := [(0, .ref m), (1, zV z1), (2, zV z2)]) (by decide) (Nat.le_of_ble_eq_true rfl) rfl (fun M H ho hr hnm hH hpre => ?_)
  have hW := hpre
  obtain ⟨o_fo, o_di, o_az, o_t, o_b, o_p, o_u, o_c, o_e, o_y, a_o, a_n, a_h, a_s, a_t, a_b, a_p, a_u, a_x, a_c, a_e, a_y, a_k⟩ := id hW
  have n_o := a_n.ok
  have n_1 := n_o.1
  have n_2 := n_o.2.1
  have n_3 := n_o.2.2
  have h_b := a_h.b
  refine x_iload_n ho 1 d_MO_swap_0 rfl ?_
  refine x_callS (rest := []) ho d_MO_swap_1 yv_MO_no g_856 g_855 (c_MO_no M.2.1 D z1 (by omega)) rfl rfl ⟨Nat.le_of_ble_eq_true rfl, Nat.le_of_ble_eq_true rfl⟩ ⟨Nat.le_of_ble_eq_true rfl, Nat.le_of_ble_eq_true rfl⟩ rfl rfl (Nat.le_of_ble_eq_true rfl) trivial fr_none' (x_rd (fun v_1 hv_1 => ?_))
  obtain rfl := hv_1
  show X _ _ _ _ _ _ _ _ _ [zV (bI (¬ isA z1))] _
  refine x_if_neB (tgt := 14) ho d_MO_swap_4 (by decide) (fun c_4 => ?_) (fun c_4 => ?_)
  ·
    have z_4 : ¬ (isA z1 ∧ isA z2) := fun q => c_4 q.1
    refine x_iconst ho d_MO_swap_14 ?_
    refine x_iret ho hr d_MO_swap_15 ?_
    have e : m_swap z1 z2 V = (-1, V) := by unfold m_swap; rw [cif_f (z_4)]
    exact ⟨by rw [e], by rw [e]; exact isO_mk a_o a_n a_h a_s a_t a_b a_p a_u a_x a_c a_e a_y a_k⟩
  ·
    refine x_iload_n ho 2 d_MO_swap_7 rfl ?_
    refine x_callS (rest := []) ho d_MO_swap_8 yv_MO_no g_856 g_855 (c_MO_no M.2.1 D z2 (by omega)) rfl rfl ⟨Nat.le_of_ble_eq_true rfl, Nat.le_of_ble_eq_true rfl⟩ ⟨Nat.le_of_ble_eq_true rfl, Nat.le_of_ble_eq_true rfl⟩ rfl rfl (Nat.le_of_ble_eq_true rfl) trivial fr_none' (x_rd (fun v_3 hv_3 => ?_))
    obtain rfl := hv_3
    show X _ _ _ _ _ _ _ _ _ [zV (bI (¬ isA z2))] _
    refine x_if_eqB (tgt := 16) ho d_MO_swap_11 (by decide) (fun c_11 => ?_) (fun c_11 => ?_)
    ·
      have z_4 : isA z1 ∧ isA z2 := ⟨Classical.not_not.mp c_4, Classical.not_not.mp c_11⟩
      refine x_iload_n ho 1 d_MO_swap_16 rfl ?_
      refine x_iload_n ho 2 d_MO_swap_17 rfl ?_
      refine x_icmp_ne (tgt := 24) ho d_MO_swap_18 (by decide) (by omega) (by omega) (fun c_18 => ?_) (fun c_18 => ?_)
      ·
        refine x_aload_n ho 0 d_MO_swap_24 rfl ?_
        refine x_callV (rest := []) ho d_MO_swap_25 yv_MO_record g_835 g_28 g_834 (c_MO_record M.2.1 D m V.2.2.1 o_fo o_di ((V.2.2.2.2.length : Int)) o_az V.1 V.2.2.2.1 ) rfl rfl ⟨Nat.le_of_ble_eq_true rfl, Nat.le_of_ble_eq_true rfl⟩ ⟨Nat.le_of_ble_eq_true rfl, Nat.le_of_ble_eq_true rfl⟩ rfl rfl (Nat.le_of_ble_eq_true rfl) a_o rfl rfl ⟨a_o, a_n, a_h⟩ (rA_sub (by omega) (by omega)) (fun v_5 H_7 hv_5 f_6 => ?_)
        have k_8 := a_s.kept (f_6.2 _ a_s.lt (rA_no (by omega)))
        have k_9 := a_t.kept (f_6.2 _ a_t.lt (rA_no (by omega)))
        have k_10 := a_b.kept (f_6.2 _ a_b.lt (rA_no (by omega)))
        have k_11 := a_p.kept (f_6.2 _ a_p.lt (rA_no (by omega)))
        have k_12 := a_u.kept (f_6.2 _ a_u.lt (rA_no (by omega)))
        have k_13 := a_x.kept (f_6.2 _ a_x.lt (rA_no (by omega)))
        have k_14 := a_c.kept (f_6.2 _ a_c.lt (rA_no (by omega)))
        have k_15 := a_e.kept (f_6.2 _ a_e.lt (rA_no (by omega)))
        have k_16 := a_y.kept (f_6.2 _ a_y.lt (rA_no (by omega)))
        obtain ⟨rfl, t_o_17, t_n_18, t_h_19⟩ := hv_5
        show X _ _ _ _ _ _ _ _ _ [] _
        refine x_iconst ho d_MO_swap_28 ?_
        refine x_istore_n (L' := [(3, zV 0), (0, .ref m), (1, zV z1), (2, zV z2)]) ho d_MO_swap_29 (by decide) rfl ?_
        have loop_30 : ∀ (kk : Nat) (l : Int) (T : Int → Int) (H_20 : Heap) (l_o : At D H_20 m (oO 11 [.ref (m + 1), .ref (m + 2), zV (((recH V.2.2.2.1 V.1).length : Int)), .ref (m + 3), zV V.2.2.1, .ref (m + 4), .ref (m + 5), .ref (m + 6), zV o_fo, .ref (m + 7), zV o_di, zV ((V.2.2.2.2.length : Int)), .ref (m + 8), zV o_az, .ref (m + 9), .ref (m + 10), .ref (m + 11)])) (l_n : isN D H_20 (m + 1) V.1) (l_h : isHm D H_20 (m + 2) (recH V.2.2.2.1 V.1)) (l_s : isSl D H_20 (m + 3) V.2.2.1 V.2.1) (l_t : At D H_20 (m + 4) (oI D 301 T)) (l_b : At D H_20 (m + 5) (oI D 301 o_b)) (l_p : At D H_20 (m + 6) (oI D 300 o_p)) (l_u : At D H_20 (m + 7) (oI D 300 o_u)) (l_x : isTx D H_20 (m + 8) V.2.2.2.2) (l_c : At D H_20 (m + 9) (oI D 16 o_c)) (l_e : At D H_20 (m + 10) (oI D 16 o_e)) (l_y : At D H_20 (m + 11) (oI D 4 o_y)) (l0 : 0 ≤ l ∧ l ≤ 4) (hP : rpP T (fun i => (V.1.1 (sw z1 z2 i)).map (sw z1 z2)) l), (4 - l).toNat < kk → X M ({ frames := 2, cells := 0, slots := 0, locals := 42 } : Room) 6 (rA m (m + 12)) 0 0 (Qof M (rA m (m + 12)) (q_MO_swap D m V z1 z2) 0 0) 30 [(3, zV l), (0, .ref m), (1, zV z1), (2, zV z2)] [] H_20 := by
          intro kk
          induction kk with
          | zero => intro l T H_20 l_o l_n l_h l_s l_t l_b l_p l_u l_x l_c l_e l_y l0 hP hk; exact absurd hk (Nat.not_lt_zero _)
          | succ kk ih_30 =>
            intro l T H_20 l_o l_n l_h l_s l_t l_b l_p l_u l_x l_c l_e l_y l0 hP hk_30
            refine x_iload_n ho 0 d_MO_swap_30 rfl ?_
            refine x_iconst ho d_MO_swap_31 ?_
            refine x_icmp_ge (tgt := 111) ho d_MO_swap_32 (by decide) (by omega) (by omega) (fun c_32 => ?_) (fun c_32 => ?_)
            ·
              have hR : rpR T (fun i => (V.1.1 (sw z1 z2 i)).map (sw z1 z2)) := fun i p q => hP i p (by omega)
              have hOK := okR_sw z_4.1 z_4.2 n_1
              refine x_aload_n ho 1 d_MO_swap_111 rfl ?_
              refine x_callV (rest := []) ho d_MO_swap_112 yv_MO_laysRule g_838 g_29 g_837 (c_MO_laysRule M.2.1 D m (((recH V.2.2.2.1 V.1).length : Int)) V.2.2.1 o_fo o_di ((V.2.2.2.2.length : Int)) o_az V.1 T (fun i => (V.1.1 (sw z1 z2 i)).map (sw z1 z2)) (by exact hR) (by exact hOK)) rfl rfl ⟨Nat.le_of_ble_eq_true rfl, Nat.le_of_ble_eq_true rfl⟩ ⟨Nat.le_of_ble_eq_true rfl, Nat.le_of_ble_eq_true rfl⟩ rfl rfl (Nat.le_of_ble_eq_true rfl) l_o rfl rfl ⟨l_o, l_n, l_t⟩ (rA_sub (by omega) (by omega)) (fun v_21 H_23 hv_21 f_22 => ?_)
              have k_24 := l_h.kept (f_22.2 _ l_h.lt (rA_no (by omega)))
              have k_25 := l_s.kept (f_22.2 _ l_s.lt (rA_no (by omega)))
              have k_26 := l_b.kept (f_22.2 _ l_b.lt (rA_no (by omega)))
              have k_27 := l_p.kept (f_22.2 _ l_p.lt (rA_no (by omega)))
              have k_28 := l_u.kept (f_22.2 _ l_u.lt (rA_no (by omega)))
              have k_29 := l_x.kept (f_22.2 _ l_x.lt (rA_no (by omega)))
              have k_30 := l_c.kept (f_22.2 _ l_c.lt (rA_no (by omega)))
              have k_31 := l_e.kept (f_22.2 _ l_e.lt (rA_no (by omega)))
              have k_32 := l_y.kept (f_22.2 _ l_y.lt (rA_no (by omega)))
              obtain ⟨rfl, t_o_33, t_n_34, t_t_35⟩ := hv_21
              show X _ _ _ _ _ _ _ _ _ [] _
              refine x_iconst ho d_MO_swap_115 ?_
              refine x_istore_n (L' := [(3, zV 0), (0, .ref m), (1, zV z1), (2, zV z2)]) ho d_MO_swap_116 (by decide) rfl ?_
              refine x_iconst ho d_MO_swap_117 ?_
              refine x_istore (L' := [(4, zV 0), (3, zV 0), (0, .ref m), (1, zV z1), (2, zV z2)]) ho d_MO_swap_118 (by decide) rfl ?_
              have loop_120 : ∀ (kk : Nat) (k : Int) (n : Int) (H_36 : Heap) (l_o : At D H_36 m (oO 11 [.ref (m + 1), .ref (m + 2), zV (((recH V.2.2.2.1 V.1).length : Int)), .ref (m + 3), zV V.2.2.1, .ref (m + 4), .ref (m + 5), .ref (m + 6), zV o_fo, .ref (m + 7), zV o_di, zV ((V.2.2.2.2.length : Int)), .ref (m + 8), zV o_az, .ref (m + 9), .ref (m + 10), .ref (m + 11)])) (l_n : isN D H_36 (m + 1) (fun i => (V.1.1 (sw z1 z2 i)).map (sw z1 z2), swp (sw z1 z2) V.1.2.1 k, V.1.2.2)) (l_h : isHm D H_36 (m + 2) (recH V.2.2.2.1 V.1)) (l_s : isSl D H_36 (m + 3) V.2.2.1 V.2.1) (l_t : At D H_36 (m + 4) (oI D 301 T)) (l_b : At D H_36 (m + 5) (oI D 301 o_b)) (l_p : At D H_36 (m + 6) (oI D 300 o_p)) (l_u : At D H_36 (m + 7) (oI D 300 o_u)) (l_x : isTx D H_36 (m + 8) V.2.2.2.2) (l_c : At D H_36 (m + 9) (oI D 16 o_c)) (l_e : At D H_36 (m + 10) (oI D 16 o_e)) (l_y : At D H_36 (m + 11) (oI D 4 o_y)) (k0 : 0 ≤ k ∧ k ≤ (V.1.2.1.length : Int)) (hn : n = cn (tk V.1.2.1 k) z1 + cn (tk V.1.2.1 k) z2), ((V.1.2.1.length : Int) - k).toNat < kk → X M ({ frames := 2, cells := 0, slots := 0, locals := 42 } : Room) 6 (rA m (m + 12)) 0 0 (Qof M (rA m (m + 12)) (q_MO_swap D m V z1 z2) 0 0) 120 [(4, zV k), (3, zV n), (0, .ref m), (1, zV z1), (2, zV z2)] [] H_36 := by
                intro kk
                induction kk with
                | zero => intro k n H_36 l_o l_n l_h l_s l_t l_b l_p l_u l_x l_c l_e l_y k0 hn hk; exact absurd hk (Nat.not_lt_zero _)
                | succ kk ih_120 =>
                  intro k n H_36 l_o l_n l_h l_s l_t l_b l_p l_u l_x l_c l_e l_y k0 hn hk_120
                  refine x_iload ho 0 d_MO_swap_120 rfl ?_
                  refine x_aload_n ho 2 d_MO_swap_122 rfl ?_
                  have hl3 : ((swp (sw z1 z2) V.1.2.1 k).length : Int) = (V.1.2.1.length : Int) := swp_len
                  refine x_callV (rest := [zV k]) ho d_MO_swap_123 yv_MO_length g_862 g_31 g_861 (c_MO_length M.2.1 D m (((recH V.2.2.2.1 V.1).length : Int)) V.2.2.1 o_fo o_di ((V.2.2.2.2.length : Int)) o_az (fun i => (V.1.1 (sw z1 z2 i)).map (sw z1 z2), swp (sw z1 z2) V.1.2.1 k, V.1.2.2) ) rfl rfl ⟨Nat.le_of_ble_eq_true rfl, Nat.le_of_ble_eq_true rfl⟩ ⟨Nat.le_of_ble_eq_true rfl, Nat.le_of_ble_eq_true rfl⟩ rfl rfl (Nat.le_of_ble_eq_true rfl) l_o rfl rfl ⟨l_o, l_n⟩ fr_none' (x_rd (fun v_37 hv_37 => ?_))
                  obtain ⟨rfl, lb_39⟩ := hv_37
                  show X _ _ _ _ _ _ _ _ _ [zV (((swp (sw z1 z2) V.1.2.1 k).length : Int)), zV k] _
                  refine x_eqI (b := (V.1.2.1.length : Int)) (by exact hl3) ?_
                  refine x_icmp_ge (tgt := 179) ho d_MO_swap_126 (by decide) (by omega) (by omega) (fun c_126 => ?_) (fun c_126 => ?_)
                  ·
                    rw [tk_all (by omega)] at hn
                    have hN5 : isN D H_36 (m + 1) (fun i => (V.1.1 (sw z1 z2 i)).map (sw z1 z2), V.1.2.1.map (sw z1 z2), V.1.2.2) := by rw [← swp_all (f := sw z1 z2) (w := V.1.2.1) (k := k) (by omega)]; exact l_n
                    refine x_iload_n ho 1 d_MO_swap_179 rfl ?_
                    refine x_iret ho hr d_MO_swap_180 ?_
                    have e : m_swap z1 z2 V = (cn V.1.2.1 z1 + cn V.1.2.1 z2, act (fun i => (V.1.1 (sw z1 z2 i)).map (sw z1 z2), V.1.2.1.map (sw z1 z2), V.1.2.2) V) := by unfold m_swap; rw [cif_t (z_4), cif_f (c_18)]
                    exact ⟨rI (by rw [e]; exact hn), by rw [e]; exact isO_mk l_o hN5 l_h l_s l_t l_b l_p l_u l_x l_c l_e l_y a_k⟩
                  ·
                    have hll : ((swp (sw z1 z2) V.1.2.1 k).length : Int) = (V.1.2.1.length : Int) := swp_len
                    have hge : gA (swp (sw z1 z2) V.1.2.1 k) k = gA V.1.2.1 k := swp_ge (by omega) (by omega) (by omega)
                    have hgr := gA_r n_2.2.2 k
                    refine x_aload_n ho 2 d_MO_swap_129 rfl ?_
                    refine x_iload ho 0 d_MO_swap_130 rfl ?_
                    refine x_callV (rest := []) ho d_MO_swap_132 yv_MO_word g_865 g_32 g_864 (c_MO_word M.2.1 D m (((recH V.2.2.2.1 V.1).length : Int)) V.2.2.1 o_fo o_di ((V.2.2.2.2.length : Int)) o_az (fun i => (V.1.1 (sw z1 z2 i)).map (sw z1 z2), swp (sw z1 z2) V.1.2.1 k, V.1.2.2) k (show 0 ≤ k ∧ k < ((swp (sw z1 z2) V.1.2.1 k).length : Int) by omega)) rfl rfl ⟨Nat.le_of_ble_eq_true rfl, Nat.le_of_ble_eq_true rfl⟩ ⟨Nat.le_of_ble_eq_true rfl, Nat.le_of_ble_eq_true rfl⟩ rfl rfl (Nat.le_of_ble_eq_true rfl) l_o rfl rfl ⟨l_o, l_n⟩ fr_none' (x_rd (fun v_40 hv_40 => ?_))
                    obtain ⟨rfl, gb_42⟩ := hv_40
                    show X _ _ _ _ _ _ _ _ _ [zV (gA (swp (sw z1 z2) V.1.2.1 k) k)] _
                    refine x_eqI (b := gA V.1.2.1 k) (by exact hge) ?_
                    refine x_istore (L' := [(5, zV (gA V.1.2.1 k)), (4, zV k), (3, zV n), (0, .ref m), (1, zV z1), (2, zV z2)]) ho d_MO_swap_135 (by decide) rfl ?_
                    refine x_aload_n ho 3 d_MO_swap_137 rfl ?_
                    refine x_get 0 ho d_MO_swap_138 cl_MO (by decide) g_757 l_o rfl ?_
                    refine x_bipush (z := 37) ho d_MO_swap_141 (by decide) ?_
                    refine x_iload ho 1 d_MO_swap_143 rfl ?_
                    refine x_iadd ho d_MO_swap_145 ?_
                    refine x_iload ho 0 d_MO_swap_146 rfl ?_
                    refine x_iload_n ho 4 d_MO_swap_148 rfl ?_
                    refine x_iload_n ho 5 d_MO_swap_149 rfl ?_
                    refine x_callS (rest := [zV (37 + k), .ref (m + 1)]) ho d_MO_swap_150 yv_MO_swapped g_859 g_858 (c_MO_swapped M.2.1 D (gA V.1.2.1 k) z1 z2 (by omega) (by omega) (by omega)) rfl rfl ⟨Nat.le_of_ble_eq_true rfl, Nat.le_of_ble_eq_true rfl⟩ ⟨Nat.le_of_ble_eq_true rfl, Nat.le_of_ble_eq_true rfl⟩ rfl rfl (Nat.le_of_ble_eq_true rfl) trivial fr_none' (x_rd (fun v_43 hv_43 => ?_))
                    obtain rfl := hv_43
                    show X _ _ _ _ _ _ _ _ _ [zV (sw z1 z2 (gA V.1.2.1 k)), zV (37 + k), .ref (m + 1)] _
                    obtain ⟨g_f, g_a, g_r, g_p⟩ := id l_n
                    refine x_iast ho d_MO_swap_153 g_a (by omega) (by omega) (by omega) (rA_in (by omega) (by omega)) (fun H_45 p_46 z_47 q_48 => ?_)
                    have k_49 := l_o.kept (q_48 _ (by omega))
                    have k_50 := l_h.kept (q_48 _ (by omega))
                    have k_51 := l_s.kept (q_48 _ (by omega))
                    have k_52 := l_t.kept (q_48 _ (by omega))
                    have k_53 := l_b.kept (q_48 _ (by omega))
                    have k_54 := l_p.kept (q_48 _ (by omega))
                    have k_55 := l_u.kept (q_48 _ (by omega))
                    have k_56 := l_x.kept (q_48 _ (by omega))
                    have k_57 := l_c.kept (q_48 _ (by omega))
                    have k_58 := l_e.kept (q_48 _ (by omega))
                    have k_59 := l_y.kept (q_48 _ (by omega))
                    have hN4 : isN D H_45 (m + 1) ((fun i => (V.1.1 (sw z1 z2 i)).map (sw z1 z2), swp (sw z1 z2) V.1.2.1 (k + 1), V.1.2.2)) := ⟨_, p_46, rp_swp g_r g_p (by omega) rfl rfl, ok_swp (c := fun i => (V.1.1 (sw z1 z2 i)).map (sw z1 z2)) (w := V.1.2.1) ⟨hOK, n_2, n_3⟩ (fun x hx => sw_r z_4.1 z_4.2 hx)⟩
                    have hl4 : ((swp (sw z1 z2) V.1.2.1 (k + 1)).length : Int) = (V.1.2.1.length : Int) := swp_len
                    refine x_iload_n ho 2 d_MO_swap_154 rfl ?_
                    refine x_iload ho 0 d_MO_swap_155 rfl ?_
                    refine x_aload_n ho 3 d_MO_swap_157 rfl ?_
                    refine x_iload ho 1 d_MO_swap_158 rfl ?_
                    refine x_callV (rest := [zV (gA V.1.2.1 k), zV n]) ho d_MO_swap_160 yv_MO_word g_865 g_32 g_864 (c_MO_word M.2.1 D m (((recH V.2.2.2.1 V.1).length : Int)) V.2.2.1 o_fo o_di ((V.2.2.2.2.length : Int)) o_az (fun i => (V.1.1 (sw z1 z2 i)).map (sw z1 z2), swp (sw z1 z2) V.1.2.1 (k + 1), V.1.2.2) k (show 0 ≤ k ∧ k < ((swp (sw z1 z2) V.1.2.1 (k + 1)).length : Int) by omega)) rfl rfl ⟨Nat.le_of_ble_eq_true rfl, Nat.le_of_ble_eq_true rfl⟩ ⟨Nat.le_of_ble_eq_true rfl, Nat.le_of_ble_eq_true rfl⟩ rfl rfl (Nat.le_of_ble_eq_true rfl) k_49 rfl rfl ⟨k_49, hN4⟩ fr_none' (x_rd (fun v_60 hv_60 => ?_))
                    obtain ⟨rfl, gb_62⟩ := hv_60
                    show X _ _ _ _ _ _ _ _ _ [zV (gA (swp (sw z1 z2) V.1.2.1 (k + 1)) k), zV (gA V.1.2.1 k), zV n] _
                    refine x_eqI (b := sw z1 z2 (gA V.1.2.1 k)) (by exact swp_lt (by omega) (by omega) (by omega)) ?_
                    have hsw := sw_r z_4.1 z_4.2 (x := gA V.1.2.1 k) ⟨hgr.1, hgr.2⟩
                    have hch := sw_ch (a := z1) (b := z2) (x := gA V.1.2.1 k) c_18
                    refine x_icmp_ne (tgt := 170) ho d_MO_swap_163 (by decide) (by omega) (by omega) (fun c_163 => ?_) (fun c_163 => ?_)
                    ·
                      refine x_iconst ho d_MO_swap_170 ?_
                      refine x_iadd ho d_MO_swap_171 ?_
                      refine x_istore_n (L' := [(3, zV (n + 1)), (5, zV (gA V.1.2.1 k)), (4, zV k), (0, .ref m), (1, zV z1), (2, zV z2)]) ho d_MO_swap_172 (by decide) rfl ?_
                      refine x_iinc (L' := [(4, zV (k + 1)), (3, zV (n + 1)), (5, zV (gA V.1.2.1 k)), (0, .ref m), (1, zV z1), (2, zV z2)]) ho 2 d_MO_swap_173 rfl rfl (by decide) rfl ?_
                      refine x_goto (tgt := 120) ho d_MO_swap_176 (by decide) ?_
                      refine x_sub (L' := [(4, zV (k + 1)), (3, zV (n + 1)), (0, .ref m), (1, zV z1), (2, zV z2)]) [0, 1, 3, 4, 5] rfl ?_
                      exact ih_120 (k + 1) (n + 1) H_45 k_49 hN4 k_50 k_51 k_52 k_53 k_54 k_55 k_56 k_57 k_58 k_59 (by omega) (by rw [cn_tk (by omega) (by omega), cn_tk (by omega) (by omega), hn]; have q := fun p => c_163 (hch.mpr p); by_cases q1 : gA V.1.2.1 k = z1; rw [if_pos q1, if_neg (by omega)]; omega; by_cases q2 : gA V.1.2.1 k = z2; rw [if_neg q1, if_pos q2]; omega; exact absurd (by omega) q) (by omega)
                    ·
                      refine x_iconst ho d_MO_swap_166 ?_
                      refine x_goto (tgt := 171) ho d_MO_swap_167 (by decide) ?_
                      refine x_iadd ho d_MO_swap_171 ?_
                      refine x_istore_n (L' := [(3, zV (n + 0)), (5, zV (gA V.1.2.1 k)), (4, zV k), (0, .ref m), (1, zV z1), (2, zV z2)]) ho d_MO_swap_172 (by decide) rfl ?_
                      refine x_iinc (L' := [(4, zV (k + 1)), (3, zV (n + 0)), (5, zV (gA V.1.2.1 k)), (0, .ref m), (1, zV z1), (2, zV z2)]) ho 2 d_MO_swap_173 rfl rfl (by decide) rfl ?_
                      refine x_goto (tgt := 120) ho d_MO_swap_176 (by decide) ?_
                      refine x_sub (L' := [(4, zV (k + 1)), (3, zV (n + 0)), (0, .ref m), (1, zV z1), (2, zV z2)]) [0, 1, 3, 4, 5] rfl ?_
                      exact ih_120 (k + 1) (n + 0) H_45 k_49 hN4 k_50 k_51 k_52 k_53 k_54 k_55 k_56 k_57 k_58 k_59 (by omega) (by rw [cn_tk (by omega) (by omega), cn_tk (by omega) (by omega), hn]; have q := hch.mp c_163; rw [if_neg (by omega), if_neg (by omega)]; omega) (by omega)
              exact loop_120 _ 0 0 H_23 t_o_33 (by rw [swp_0]; exact t_n_34) k_24 k_25 t_t_35 k_26 k_27 k_28 k_29 k_30 k_31 k_32 (by omega) (by rw [tk_0]; rfl) (Nat.lt_succ_self _)
            ·
              have hsr := sw_r z_4.1 z_4.2 (x := l) ⟨by omega, by omega⟩
              have h8 : ∀ i : Int, 0 ≤ i → i < l → (((fun i => (V.1.1 (sw z1 z2 i)).map (sw z1 z2)) i).length : Int) ≤ 8 := fun i p q => (okR_sw z_4.1 z_4.2 n_1 i p (by omega)).2.1
              have hsz := n_1 _ hsr.1 hsr.2
              refine x_iload_n ho 0 d_MO_swap_35 rfl ?_
              refine x_iload_n ho 2 d_MO_swap_36 rfl ?_
              refine x_iload_n ho 3 d_MO_swap_37 rfl ?_
              refine x_callS (rest := []) ho d_MO_swap_38 yv_MO_swapped g_859 g_858 (c_MO_swapped M.2.1 D l z1 z2 (by omega) (by omega) (by omega)) rfl rfl ⟨Nat.le_of_ble_eq_true rfl, Nat.le_of_ble_eq_true rfl⟩ ⟨Nat.le_of_ble_eq_true rfl, Nat.le_of_ble_eq_true rfl⟩ rfl rfl (Nat.le_of_ble_eq_true rfl) trivial fr_none' (x_rd (fun v_63 hv_63 => ?_))
              obtain rfl := hv_63
              show X _ _ _ _ _ _ _ _ _ [zV (sw z1 z2 l)] _
              refine x_istore (L' := [(4, zV (sw z1 z2 l)), (3, zV l), (0, .ref m), (1, zV z1), (2, zV z2)]) ho d_MO_swap_41 (by decide) rfl ?_
              refine x_aload_n ho 2 d_MO_swap_43 rfl ?_
              refine x_get 5 ho d_MO_swap_44 cl_MO (by decide) g_762 l_o rfl ?_
              refine x_bipush (z := 9) ho d_MO_swap_47 (by decide) ?_
              refine x_iload_n ho 1 d_MO_swap_49 rfl ?_
              refine x_imul ho d_MO_swap_50 ?_
              refine x_aload_n ho 2 d_MO_swap_51 rfl ?_
              refine x_iload ho 0 d_MO_swap_52 rfl ?_
              refine x_callV (rest := [zV (9 * l), .ref (m + 4)]) ho d_MO_swap_54 yv_MO_size g_829 g_26 g_828 (c_MO_size M.2.1 D m (((recH V.2.2.2.1 V.1).length : Int)) V.2.2.1 o_fo o_di ((V.2.2.2.2.length : Int)) o_az V.1 (sw z1 z2 l) (by omega)) rfl rfl ⟨Nat.le_of_ble_eq_true rfl, Nat.le_of_ble_eq_true rfl⟩ ⟨Nat.le_of_ble_eq_true rfl, Nat.le_of_ble_eq_true rfl⟩ rfl rfl (Nat.le_of_ble_eq_true rfl) l_o rfl rfl ⟨l_o, l_n⟩ fr_none' (x_rd (fun v_65 hv_65 => ?_))
              obtain ⟨rfl, sb_67⟩ := hv_65
              show X _ _ _ _ _ _ _ _ _ [zV (((V.1.1 (sw z1 z2 l)).length : Int)), zV (9 * l), .ref (m + 4)] _
              refine x_iast ho d_MO_swap_57 l_t (by omega) (by omega) (by omega) (rA_in (by omega) (by omega)) (fun H_68 p_69 z_70 q_71 => ?_)
              have k_72 := l_o.kept (q_71 _ (by omega))
              have k_73 := l_n.kept (q_71 _ (by omega))
              have k_74 := l_h.kept (q_71 _ (by omega))
              have k_75 := l_s.kept (q_71 _ (by omega))
              have k_76 := l_b.kept (q_71 _ (by omega))
              have k_77 := l_p.kept (q_71 _ (by omega))
              have k_78 := l_u.kept (q_71 _ (by omega))
              have k_79 := l_x.kept (q_71 _ (by omega))
              have k_80 := l_c.kept (q_71 _ (by omega))
              have k_81 := l_e.kept (q_71 _ (by omega))
              have k_82 := l_y.kept (q_71 _ (by omega))
              refine x_iconst ho d_MO_swap_58 ?_
              refine x_istore (L' := [(5, zV 0), (4, zV (sw z1 z2 l)), (3, zV l), (0, .ref m), (1, zV z1), (2, zV z2)]) ho d_MO_swap_59 (by decide) rfl ?_
              have loop_61 : ∀ (kk : Nat) (k : Int) (T : Int → Int) (H_83 : Heap) (l_o : At D H_83 m (oO 11 [.ref (m + 1), .ref (m + 2), zV (((recH V.2.2.2.1 V.1).length : Int)), .ref (m + 3), zV V.2.2.1, .ref (m + 4), .ref (m + 5), .ref (m + 6), zV o_fo, .ref (m + 7), zV o_di, zV ((V.2.2.2.2.length : Int)), .ref (m + 8), zV o_az, .ref (m + 9), .ref (m + 10), .ref (m + 11)])) (l_n : isN D H_83 (m + 1) V.1) (l_h : isHm D H_83 (m + 2) (recH V.2.2.2.1 V.1)) (l_s : isSl D H_83 (m + 3) V.2.2.1 V.2.1) (l_t : At D H_83 (m + 4) (oI D 301 T)) (l_b : At D H_83 (m + 5) (oI D 301 o_b)) (l_p : At D H_83 (m + 6) (oI D 300 o_p)) (l_u : At D H_83 (m + 7) (oI D 300 o_u)) (l_x : isTx D H_83 (m + 8) V.2.2.2.2) (l_c : At D H_83 (m + 9) (oI D 16 o_c)) (l_e : At D H_83 (m + 10) (oI D 16 o_e)) (l_y : At D H_83 (m + 11) (oI D 4 o_y)) (k0 : 0 ≤ k ∧ k ≤ ((V.1.1 (sw z1 z2 l)).length : Int)) (hP : rpP T (fun i => (V.1.1 (sw z1 z2 i)).map (sw z1 z2)) l) (hs : T (9 * l) = ((V.1.1 (sw z1 z2 l)).length : Int)) (hK : rpK T ((V.1.1 (sw z1 z2 l)).map (sw z1 z2)) l k), (((V.1.1 (sw z1 z2 l)).length : Int) - k).toNat < kk → X M ({ frames := 2, cells := 0, slots := 0, locals := 42 } : Room) 6 (rA m (m + 12)) 0 0 (Qof M (rA m (m + 12)) (q_MO_swap D m V z1 z2) 0 0) 61 [(5, zV k), (4, zV (sw z1 z2 l)), (3, zV l), (0, .ref m), (1, zV z1), (2, zV z2)] [] H_83 := by
                intro kk
                induction kk with
                | zero => intro k T H_83 l_o l_n l_h l_s l_t l_b l_p l_u l_x l_c l_e l_y k0 hP hs hK hk; exact absurd hk (Nat.not_lt_zero _)
                | succ kk ih_61 =>
                  intro k T H_83 l_o l_n l_h l_s l_t l_b l_p l_u l_x l_c l_e l_y k0 hP hs hK hk_61
                  refine x_iload ho 0 d_MO_swap_61 rfl ?_
                  refine x_aload_n ho 3 d_MO_swap_63 rfl ?_
                  refine x_iload ho 1 d_MO_swap_64 rfl ?_
                  refine x_callV (rest := [zV k]) ho d_MO_swap_66 yv_MO_size g_829 g_26 g_828 (c_MO_size M.2.1 D m (((recH V.2.2.2.1 V.1).length : Int)) V.2.2.1 o_fo o_di ((V.2.2.2.2.length : Int)) o_az V.1 (sw z1 z2 l) (by omega)) rfl rfl ⟨Nat.le_of_ble_eq_true rfl, Nat.le_of_ble_eq_true rfl⟩ ⟨Nat.le_of_ble_eq_true rfl, Nat.le_of_ble_eq_true rfl⟩ rfl rfl (Nat.le_of_ble_eq_true rfl) l_o rfl rfl ⟨l_o, l_n⟩ fr_none' (x_rd (fun v_84 hv_84 => ?_))
                  obtain ⟨rfl, sb_86⟩ := hv_84
                  show X _ _ _ _ _ _ _ _ _ [zV (((V.1.1 (sw z1 z2 l)).length : Int)), zV k] _
                  refine x_icmp_ge (tgt := 105) ho d_MO_swap_69 (by decide) (by omega) (by omega) (fun c_69 => ?_) (fun c_69 => ?_)
                  ·
                    refine x_iinc (L' := [(3, zV (l + 1)), (5, zV k), (4, zV (sw z1 z2 l)), (0, .ref m), (1, zV z1), (2, zV z2)]) ho 2 d_MO_swap_105 rfl rfl (by decide) rfl ?_
                    refine x_goto (tgt := 30) ho d_MO_swap_108 (by decide) ?_
                    refine x_sub (L' := [(3, zV (l + 1)), (0, .ref m), (1, zV z1), (2, zV z2)]) [0, 3, 4, 5] rfl ?_
                    exact ih_30 (l + 1) T H_83 l_o l_n l_h l_s l_t l_b l_p l_u l_x l_c l_e l_y (by omega) (by exact rpP_end hP (by show T (9 * l) = (((V.1.1 (sw z1 z2 l)).map (sw z1 z2)).length : Int); rw [List.length_map]; exact hs) hK (by show (((V.1.1 (sw z1 z2 l)).map (sw z1 z2)).length : Int) ≤ k; rw [List.length_map]; omega)) (by omega)
                  ·
                    refine x_aload_n ho 3 d_MO_swap_72 rfl ?_
                    refine x_get 5 ho d_MO_swap_73 cl_MO (by decide) g_762 l_o rfl ?_
                    refine x_bipush (z := 9) ho d_MO_swap_76 (by decide) ?_
                    refine x_iload_n ho 2 d_MO_swap_78 rfl ?_
                    refine x_imul ho d_MO_swap_79 ?_
                    refine x_iconst ho d_MO_swap_80 ?_
                    refine x_iadd ho d_MO_swap_81 ?_
                    refine x_iload ho 0 d_MO_swap_82 rfl ?_
                    refine x_iadd ho d_MO_swap_84 ?_
                    refine x_aload_n ho 3 d_MO_swap_85 rfl ?_
                    refine x_iload ho 1 d_MO_swap_86 rfl ?_
                    refine x_iload ho 0 d_MO_swap_88 rfl ?_
                    refine x_callV (rest := [zV (((9 * l) + 1) + k), .ref (m + 4)]) ho d_MO_swap_90 yv_MO_sign g_832 g_27 g_831 (c_MO_sign M.2.1 D m (((recH V.2.2.2.1 V.1).length : Int)) V.2.2.1 o_fo o_di ((V.2.2.2.2.length : Int)) o_az V.1 (sw z1 z2 l) k (by omega) (by omega)) rfl rfl ⟨Nat.le_of_ble_eq_true rfl, Nat.le_of_ble_eq_true rfl⟩ ⟨Nat.le_of_ble_eq_true rfl, Nat.le_of_ble_eq_true rfl⟩ rfl rfl (Nat.le_of_ble_eq_true rfl) l_o rfl rfl ⟨l_o, l_n⟩ fr_none' (x_rd (fun v_87 hv_87 => ?_))
                    obtain ⟨rfl, gb_89⟩ := hv_87
                    show X _ _ _ _ _ _ _ _ _ [zV (gA (V.1.1 (sw z1 z2 l)) k), zV (((9 * l) + 1) + k), .ref (m + 4)] _
                    refine x_iload_n ho 4 d_MO_swap_93 rfl ?_
                    refine x_iload_n ho 5 d_MO_swap_94 rfl ?_
                    refine x_callS (rest := [zV (((9 * l) + 1) + k), .ref (m + 4)]) ho d_MO_swap_95 yv_MO_swapped g_859 g_858 (c_MO_swapped M.2.1 D (gA (V.1.1 (sw z1 z2 l)) k) z1 z2 (by omega) (by omega) (by omega)) rfl rfl ⟨Nat.le_of_ble_eq_true rfl, Nat.le_of_ble_eq_true rfl⟩ ⟨Nat.le_of_ble_eq_true rfl, Nat.le_of_ble_eq_true rfl⟩ rfl rfl (Nat.le_of_ble_eq_true rfl) trivial fr_none' (x_rd (fun v_90 hv_90 => ?_))
                    obtain rfl := hv_90
                    show X _ _ _ _ _ _ _ _ _ [zV (sw z1 z2 (gA (V.1.1 (sw z1 z2 l)) k)), zV (((9 * l) + 1) + k), .ref (m + 4)] _
                    refine x_iast ho d_MO_swap_98 l_t (by omega) (by omega) (by omega) (rA_in (by omega) (by omega)) (fun H_92 p_93 z_94 q_95 => ?_)
                    have k_96 := l_o.kept (q_95 _ (by omega))
                    have k_97 := l_n.kept (q_95 _ (by omega))
                    have k_98 := l_h.kept (q_95 _ (by omega))
                    have k_99 := l_s.kept (q_95 _ (by omega))
                    have k_100 := l_b.kept (q_95 _ (by omega))
                    have k_101 := l_p.kept (q_95 _ (by omega))
                    have k_102 := l_u.kept (q_95 _ (by omega))
                    have k_103 := l_x.kept (q_95 _ (by omega))
                    have k_104 := l_c.kept (q_95 _ (by omega))
                    have k_105 := l_e.kept (q_95 _ (by omega))
                    have k_106 := l_y.kept (q_95 _ (by omega))
                    refine x_iinc (L' := [(5, zV (k + 1)), (4, zV (sw z1 z2 l)), (3, zV l), (0, .ref m), (1, zV z1), (2, zV z2)]) ho 0 d_MO_swap_99 rfl rfl (by decide) rfl ?_
                    refine x_goto (tgt := 61) ho d_MO_swap_102 (by decide) ?_
                    exact ih_61 (k + 1) (zU T (9 * l + 1 + k) (sw z1 z2 (gA (V.1.1 (sw z1 z2 l)) k))) H_92 k_96 k_97 k_98 k_99 p_93 k_100 k_101 k_102 k_103 k_104 k_105 k_106 (by omega) (by exact rpP_z hP h8 (by omega)) (by rw [zU_n _ _ (by omega)]; exact hs) (by exact rpK_put hK rfl (gA_map (by omega) (by omega)).symm) (by omega)
              exact loop_61 _ 0 (zU T (9 * l) (((V.1.1 (sw z1 z2 l)).length : Int))) H_68 k_72 k_73 k_74 k_75 p_69 k_76 k_77 k_78 k_79 k_80 k_81 k_82 (by omega) (by exact rpP_z hP h8 (by omega)) (by exact zU_s _ _ _) (by exact rpK_0) (Nat.lt_succ_self _)
        exact loop_30 _ 0 o_t H_7 t_o_17 t_n_18 t_h_19 k_8 k_9 k_10 k_11 k_12 k_13 k_14 k_15 k_16 (by omega) (by exact rpP_0) (Nat.lt_succ_self _)
      ·
        refine x_bipush (z := (-5)) ho d_MO_swap_21 (by decide) ?_
        refine x_iret ho hr d_MO_swap_23 ?_
        have e : m_swap z1 z2 V = (-5, V) := by unfold m_swap; rw [cif_t (z_4), cif_t (c_18)]
        exact ⟨by rw [e], by rw [e]; exact isO_mk a_o a_n a_h a_s a_t a_b a_p a_u a_x a_c a_e a_y a_k⟩
    ·
      have z_4 : ¬ (isA z1 ∧ isA z2) := fun q => c_11 q.2
      refine x_iconst ho d_MO_swap_14 ?_
      refine x_iret ho hr d_MO_swap_15 ?_
      have e : m_swap z1 z2 V = (-1, V) := by unfold m_swap; rw [cif_f (z_4)]
      exact ⟨by rw [e], by rw [e]; exact isO_mk a_o a_n a_h a_s a_t a_b a_p a_u a_x a_c a_e a_y a_k⟩
