def q_MO_square (D : GG) (m : Nat) (V : WV) : Option Value → Heap → Prop := fun v0 H => v0 = some (zV ((m_square V).1)) ∧ isO D H m ((m_square V).2)
theorem yv_MO_square : Yv y_MO_square b_MO_square 6 (Option.some FieldType.int) 0 := ⟨g_843, g_65, by decide, by decide +kernel⟩
set_option maxHeartbeats 4000000 in
set_option maxRecDepth 100000 in
theorem c_MO_square (l0 : Launch) (D : GG) (m : Nat) (V : WV)  : Ct l0 D y_MO_square b_MO_square 6 (Option.some FieldType.int) ({ frames := 2, cells := 0, slots := 0, locals := 45 } : Room) [.ref m] (fun H => isO D H m V) (rA m (m + 12)) 0 0 (q_MO_square D m V) := by
  refine Ct.of (L := [(0, .ref m)]) (by decide) (Nat.le_of_ble_eq_true rfl) rfl (fun M H ho hr hnm hH hpre => ?_)
  have hW := hpre
  obtain ⟨o_fo, o_di, o_az, o_t, o_b, o_p, o_u, o_c, o_e, o_y, a_o, a_n, a_h, a_s, a_t, a_b, a_p, a_u, a_x, a_c, a_e, a_y, a_k⟩ := id hW
  have n_o := a_n.ok
  have n_1 := n_o.1
  have n_2 := n_o.2.1
  have n_3 := n_o.2.2
  have h_b := a_h.b
  refine x_iconst ho d_MO_square_0 ?_
  refine x_istore_n (L' := [(1, zV 0), (0, .ref m)]) ho d_MO_square_1 (by decide) rfl ?_
  have loop_2 : ∀ (kk : Nat) (l : Int) (l0 : 0 ≤ l ∧ l ≤ 4) (h8 : ∀ i : Int, 0 ≤ i → i < l → ((imW V.1.1 (V.1.1 i)).length : Int) ≤ 8), (4 - l).toNat < kk → X M ({ frames := 2, cells := 0, slots := 0, locals := 45 } : Room) 6 (rA m (m + 12)) 0 0 (Qof M (rA m (m + 12)) (q_MO_square D m V) 0 0) 2 [(1, zV l), (0, .ref m)] [] H := by
    intro kk
    induction kk with
    | zero => intro l l0 h8 hk; exact absurd hk (Nat.not_lt_zero _)
    | succ kk ih_2 =>
      intro l l0 h8 hk_2
      refine x_iload_n ho 0 d_MO_square_2 rfl ?_
      refine x_iconst ho d_MO_square_3 ?_
      refine x_icmp_ge (tgt := 54) ho d_MO_square_4 (by decide) (by omega) (by omega) (fun c_4 => ?_) (fun c_4 => ?_)
      ·
        have h84 : ∀ i : Int, 0 ≤ i → i < 4 → ((imW V.1.1 (V.1.1 i)).length : Int) ≤ 8 := fun i p q => h8 i p (by omega)
        have hOK := okR_sq n_1 h84
        refine x_iconst ho d_MO_square_54 ?_
        refine x_istore_n (L' := [(1, zV 0), (0, .ref m)]) ho d_MO_square_55 (by decide) rfl ?_
        have loop_56 : ∀ (kk : Nat) (l : Int) (T : Int → Int) (H_1 : Heap) (l_o : At D H_1 m (oO 11 [.ref (m + 1), .ref (m + 2), zV ((V.2.2.2.1.length : Int)), .ref (m + 3), zV V.2.2.1, .ref (m + 4), .ref (m + 5), .ref (m + 6), zV o_fo, .ref (m + 7), zV o_di, zV ((V.2.2.2.2.length : Int)), .ref (m + 8), zV o_az, .ref (m + 9), .ref (m + 10), .ref (m + 11)])) (l_n : isN D H_1 (m + 1) V.1) (l_h : isHm D H_1 (m + 2) V.2.2.2.1) (l_s : isSl D H_1 (m + 3) V.2.2.1 V.2.1) (l_t : At D H_1 (m + 4) (oI D 301 T)) (l_b : At D H_1 (m + 5) (oI D 301 o_b)) (l_p : At D H_1 (m + 6) (oI D 300 o_p)) (l_u : At D H_1 (m + 7) (oI D 300 o_u)) (l_x : isTx D H_1 (m + 8) V.2.2.2.2) (l_c : At D H_1 (m + 9) (oI D 16 o_c)) (l_e : At D H_1 (m + 10) (oI D 16 o_e)) (l_y : At D H_1 (m + 11) (oI D 4 o_y)) (l0 : 0 ≤ l ∧ l ≤ 4) (hP : rpP T (fun i => imW V.1.1 (V.1.1 i)) l), (4 - l).toNat < kk → X M ({ frames := 2, cells := 0, slots := 0, locals := 45 } : Room) 6 (rA m (m + 12)) 0 0 (Qof M (rA m (m + 12)) (q_MO_square D m V) 0 0) 56 [(1, zV l), (0, .ref m)] [] H_1 := by
          intro kk
          induction kk with
          | zero => intro l T H_1 l_o l_n l_h l_s l_t l_b l_p l_u l_x l_c l_e l_y l0 hP hk; exact absurd hk (Nat.not_lt_zero _)
          | succ kk ih_56 =>
            intro l T H_1 l_o l_n l_h l_s l_t l_b l_p l_u l_x l_c l_e l_y l0 hP hk_56
            refine x_iload_n ho 0 d_MO_square_56 rfl ?_
            refine x_iconst ho d_MO_square_57 ?_
            refine x_icmp_ge (tgt := 148) ho d_MO_square_58 (by decide) (by omega) (by omega) (fun c_58 => ?_) (fun c_58 => ?_)
            ·
              have hR : rpR T (fun i => imW V.1.1 (V.1.1 i)) := fun i p q => hP i p (by omega)
              refine x_aload_n ho 1 d_MO_square_148 rfl ?_
              refine x_callV (rest := []) ho d_MO_square_149 yv_MO_isSameRule g_826 g_25 g_825 (c_MO_isSameRule M.2.1 D m ((V.2.2.2.1.length : Int)) V.2.2.1 o_fo o_di ((V.2.2.2.2.length : Int)) o_az V.1 T (fun i => imW V.1.1 (V.1.1 i)) (by exact hR) (by exact okR_w hOK)) rfl rfl ⟨Nat.le_of_ble_eq_true rfl, Nat.le_of_ble_eq_true rfl⟩ ⟨Nat.le_of_ble_eq_true rfl, Nat.le_of_ble_eq_true rfl⟩ rfl rfl (Nat.le_of_ble_eq_true rfl) l_o rfl rfl ⟨l_o, l_n, l_t⟩ fr_none' (x_rd (fun v_2 hv_2 => ?_))
              obtain rfl := hv_2
              show X _ _ _ _ _ _ _ _ _ [zV (bI (same4 (fun i => imW V.1.1 (V.1.1 i)) V.1.1))] _
              refine x_if_eqB (tgt := 158) ho d_MO_square_152 (by decide) (fun c_152 => ?_) (fun c_152 => ?_)
              ·
                refine x_aload_n ho 1 d_MO_square_158 rfl ?_
                refine x_callV (rest := []) ho d_MO_square_159 yv_MO_record g_835 g_28 g_834 (c_MO_record M.2.1 D m V.2.2.1 o_fo o_di ((V.2.2.2.2.length : Int)) o_az V.1 V.2.2.2.1 ) rfl rfl ⟨Nat.le_of_ble_eq_true rfl, Nat.le_of_ble_eq_true rfl⟩ ⟨Nat.le_of_ble_eq_true rfl, Nat.le_of_ble_eq_true rfl⟩ rfl rfl (Nat.le_of_ble_eq_true rfl) l_o rfl rfl ⟨l_o, l_n, l_h⟩ (rA_sub (by omega) (by omega)) (fun v_4 H_6 hv_4 f_5 => ?_)
                have k_7 := l_s.kept (f_5.2 _ l_s.lt (rA_no (by omega)))
                have k_8 := l_t.kept (f_5.2 _ l_t.lt (rA_no (by omega)))
                have k_9 := l_b.kept (f_5.2 _ l_b.lt (rA_no (by omega)))
                have k_10 := l_p.kept (f_5.2 _ l_p.lt (rA_no (by omega)))
                have k_11 := l_u.kept (f_5.2 _ l_u.lt (rA_no (by omega)))
                have k_12 := l_x.kept (f_5.2 _ l_x.lt (rA_no (by omega)))
                have k_13 := l_c.kept (f_5.2 _ l_c.lt (rA_no (by omega)))
                have k_14 := l_e.kept (f_5.2 _ l_e.lt (rA_no (by omega)))
                have k_15 := l_y.kept (f_5.2 _ l_y.lt (rA_no (by omega)))
                obtain ⟨rfl, t_o_16, t_n_17, t_h_18⟩ := hv_4
                show X _ _ _ _ _ _ _ _ _ [] _
                refine x_aload_n ho 1 d_MO_square_162 rfl ?_
                refine x_callV (rest := []) ho d_MO_square_163 yv_MO_laysRule g_838 g_29 g_837 (c_MO_laysRule M.2.1 D m (((recH V.2.2.2.1 V.1).length : Int)) V.2.2.1 o_fo o_di ((V.2.2.2.2.length : Int)) o_az V.1 T (fun i => imW V.1.1 (V.1.1 i)) (by exact hR) (by exact hOK)) rfl rfl ⟨Nat.le_of_ble_eq_true rfl, Nat.le_of_ble_eq_true rfl⟩ ⟨Nat.le_of_ble_eq_true rfl, Nat.le_of_ble_eq_true rfl⟩ rfl rfl (Nat.le_of_ble_eq_true rfl) t_o_16 rfl rfl ⟨t_o_16, t_n_17, k_8⟩ (rA_sub (by omega) (by omega)) (fun v_19 H_21 hv_19 f_20 => ?_)
                have k_22 := k_7.kept (f_20.2 _ k_7.lt (rA_no (by omega)))
                have k_23 := k_9.kept (f_20.2 _ k_9.lt (rA_no (by omega)))
                have k_24 := k_10.kept (f_20.2 _ k_10.lt (rA_no (by omega)))
                have k_25 := k_11.kept (f_20.2 _ k_11.lt (rA_no (by omega)))
                have k_26 := k_12.kept (f_20.2 _ k_12.lt (rA_no (by omega)))
                have k_27 := k_13.kept (f_20.2 _ k_13.lt (rA_no (by omega)))
                have k_28 := k_14.kept (f_20.2 _ k_14.lt (rA_no (by omega)))
                have k_29 := k_15.kept (f_20.2 _ k_15.lt (rA_no (by omega)))
                have k_30 := t_h_18.kept (f_20.2 _ t_h_18.lt (rA_no (by omega)))
                obtain ⟨rfl, t_o_31, t_n_32, t_t_33⟩ := hv_19
                show X _ _ _ _ _ _ _ _ _ [] _
                refine x_aload_n ho 1 d_MO_square_166 rfl ?_
                refine x_callV (rest := []) ho d_MO_square_167 yv_MO_allSizes g_845 g_30 g_844 (c_MO_allSizes M.2.1 D m (((recH V.2.2.2.1 V.1).length : Int)) V.2.2.1 o_fo o_di ((V.2.2.2.2.length : Int)) o_az ((fun i => imW V.1.1 (V.1.1 i)), V.1.2) ) rfl rfl ⟨Nat.le_of_ble_eq_true rfl, Nat.le_of_ble_eq_true rfl⟩ ⟨Nat.le_of_ble_eq_true rfl, Nat.le_of_ble_eq_true rfl⟩ rfl rfl (Nat.le_of_ble_eq_true rfl) t_o_31 rfl rfl ⟨t_o_31, t_n_32⟩ fr_none' (x_rd (fun v_34 hv_34 => ?_))
                obtain rfl := hv_34
                show X _ _ _ _ _ _ _ _ _ [zV (tot ((fun i => imW V.1.1 (V.1.1 i)), V.1.2).1)] _
                refine x_iret ho hr d_MO_square_170 ?_
                have e : m_square V = (tot (fun i => imW V.1.1 (V.1.1 i)), act (fun i => imW V.1.1 (V.1.1 i), V.1.2) V) := by unfold m_square; rw [cif_t (h84), cif_f (c_152)]
                exact ⟨by rw [e], by rw [e]; exact isO_mk t_o_31 t_n_32 k_30 k_22 t_t_33 k_23 k_24 k_25 k_26 k_27 k_28 k_29 a_k⟩
              ·
                refine x_bipush (z := (-5)) ho d_MO_square_155 (by decide) ?_
                refine x_iret ho hr d_MO_square_157 ?_
                have e : m_square V = (-5, V) := by unfold m_square; rw [cif_t (h84), cif_t (c_152)]
                exact ⟨by rw [e], by rw [e]; exact isO_mk l_o l_n l_h l_s l_t l_b l_p l_u l_x l_c l_e l_y a_k⟩
            ·
              have h8l : ∀ i : Int, 0 ≤ i → i < l → (((fun i => imW V.1.1 (V.1.1 i)) i).length : Int) ≤ 8 := fun i p q => h84 i p (by omega)
              have h8x := h84 l (by omega) (by omega)
              refine x_iconst ho d_MO_square_61 ?_
              refine x_istore_n (L' := [(2, zV 0), (1, zV l), (0, .ref m)]) ho d_MO_square_62 (by decide) rfl ?_
              refine x_iconst ho d_MO_square_63 ?_
              refine x_istore_n (L' := [(3, zV 0), (2, zV 0), (1, zV l), (0, .ref m)]) ho d_MO_square_64 (by decide) rfl ?_
              have loop_65 : ∀ (kk : Nat) (k : Int) (n : Int) (T : Int → Int) (H_36 : Heap) (l_o : At D H_36 m (oO 11 [.ref (m + 1), .ref (m + 2), zV ((V.2.2.2.1.length : Int)), .ref (m + 3), zV V.2.2.1, .ref (m + 4), .ref (m + 5), .ref (m + 6), zV o_fo, .ref (m + 7), zV o_di, zV ((V.2.2.2.2.length : Int)), .ref (m + 8), zV o_az, .ref (m + 9), .ref (m + 10), .ref (m + 11)])) (l_n : isN D H_36 (m + 1) V.1) (l_h : isHm D H_36 (m + 2) V.2.2.2.1) (l_s : isSl D H_36 (m + 3) V.2.2.1 V.2.1) (l_t : At D H_36 (m + 4) (oI D 301 T)) (l_b : At D H_36 (m + 5) (oI D 301 o_b)) (l_p : At D H_36 (m + 6) (oI D 300 o_p)) (l_u : At D H_36 (m + 7) (oI D 300 o_u)) (l_x : isTx D H_36 (m + 8) V.2.2.2.2) (l_c : At D H_36 (m + 9) (oI D 16 o_c)) (l_e : At D H_36 (m + 10) (oI D 16 o_e)) (l_y : At D H_36 (m + 11) (oI D 4 o_y)) (k0 : 0 ≤ k ∧ k ≤ ((V.1.1 l).length : Int)) (nb : 0 ≤ n ∧ n ≤ 8) (hn : n = ((imW V.1.1 (tk (V.1.1 l) k)).length : Int)) (hP : rpP T (fun i => imW V.1.1 (V.1.1 i)) l) (hK : rpK T (imW V.1.1 (V.1.1 l)) l n), (((V.1.1 l).length : Int) - k).toNat < kk → X M ({ frames := 2, cells := 0, slots := 0, locals := 45 } : Room) 6 (rA m (m + 12)) 0 0 (Qof M (rA m (m + 12)) (q_MO_square D m V) 0 0) 65 [(3, zV k), (2, zV n), (1, zV l), (0, .ref m)] [] H_36 := by
                intro kk
                induction kk with
                | zero => intro k n T H_36 l_o l_n l_h l_s l_t l_b l_p l_u l_x l_c l_e l_y k0 nb hn hP hK hk; exact absurd hk (Nat.not_lt_zero _)
                | succ kk ih_65 =>
                  intro k n T H_36 l_o l_n l_h l_s l_t l_b l_p l_u l_x l_c l_e l_y k0 nb hn hP hK hk_65
                  refine x_iload_n ho 0 d_MO_square_65 rfl ?_
                  refine x_aload_n ho 3 d_MO_square_66 rfl ?_
                  refine x_iload_n ho 2 d_MO_square_67 rfl ?_
                  refine x_callV (rest := [zV k]) ho d_MO_square_68 yv_MO_size g_829 g_26 g_828 (c_MO_size M.2.1 D m ((V.2.2.2.1.length : Int)) V.2.2.1 o_fo o_di ((V.2.2.2.2.length : Int)) o_az V.1 l (by omega)) rfl rfl ⟨Nat.le_of_ble_eq_true rfl, Nat.le_of_ble_eq_true rfl⟩ ⟨Nat.le_of_ble_eq_true rfl, Nat.le_of_ble_eq_true rfl⟩ rfl rfl (Nat.le_of_ble_eq_true rfl) l_o rfl rfl ⟨l_o, l_n⟩ fr_none' (x_rd (fun v_37 hv_37 => ?_))
                  obtain ⟨rfl, sb_39⟩ := hv_37
                  show X _ _ _ _ _ _ _ _ _ [zV (((V.1.1 l).length : Int)), zV k] _
                  refine x_icmp_ge (tgt := 132) ho d_MO_square_71 (by decide) (by omega) (by omega) (fun c_71 => ?_) (fun c_71 => ?_)
                  ·
                    rw [tk_all (by omega)] at hn
                    refine x_aload_n ho 3 d_MO_square_132 rfl ?_
                    refine x_get 5 ho d_MO_square_133 cl_MO (by decide) g_762 l_o rfl ?_
                    refine x_bipush (z := 9) ho d_MO_square_136 (by decide) ?_
                    refine x_iload_n ho 2 d_MO_square_138 rfl ?_
                    refine x_imul ho d_MO_square_139 ?_
                    refine x_iload_n ho 1 d_MO_square_140 rfl ?_
                    refine x_iast ho d_MO_square_141 l_t (by omega) (by omega) (by omega) (rA_in (by omega) (by omega)) (fun H_40 p_41 z_42 q_43 => ?_)
                    have k_44 := l_o.kept (q_43 _ (by omega))
                    have k_45 := l_n.kept (q_43 _ (by omega))
                    have k_46 := l_h.kept (q_43 _ (by omega))
                    have k_47 := l_s.kept (q_43 _ (by omega))
                    have k_48 := l_b.kept (q_43 _ (by omega))
                    have k_49 := l_p.kept (q_43 _ (by omega))
                    have k_50 := l_u.kept (q_43 _ (by omega))
                    have k_51 := l_x.kept (q_43 _ (by omega))
                    have k_52 := l_c.kept (q_43 _ (by omega))
                    have k_53 := l_e.kept (q_43 _ (by omega))
                    have k_54 := l_y.kept (q_43 _ (by omega))
                    refine x_iinc (L' := [(1, zV (l + 1)), (3, zV k), (2, zV n), (0, .ref m)]) ho 2 d_MO_square_142 rfl rfl (by decide) rfl ?_
                    refine x_goto (tgt := 56) ho d_MO_square_145 (by decide) ?_
                    refine x_sub (L' := [(1, zV (l + 1)), (0, .ref m)]) [0, 3] rfl ?_
                    exact ih_56 (l + 1) (zU T (9 * l) n) H_40 k_44 k_45 k_46 k_47 p_41 k_48 k_49 k_50 k_51 k_52 k_53 k_54 (by omega) (by exact rpP_end (rpP_z hP h8l (by omega)) (by rw [zU_s]; exact hn) (rpK_z hK) (by show ((imW V.1.1 (V.1.1 l)).length : Int) ≤ n; omega)) (by omega)
                  ·
                    have hgr := gA_r (n_1 l (by omega) (by omega)).2.2 k
                    have hsz := n_1 _ hgr.1 hgr.2
                    have hs9 := n_1 l (by omega) (by omega)
                    have hle := imW_le (c := V.1.1) (L := V.1.1 l) (k := k) (by omega) (by omega)
                    refine x_aload_n ho 3 d_MO_square_74 rfl ?_
                    refine x_iload_n ho 2 d_MO_square_75 rfl ?_
                    refine x_iload_n ho 0 d_MO_square_76 rfl ?_
                    refine x_callV (rest := []) ho d_MO_square_77 yv_MO_sign g_832 g_27 g_831 (c_MO_sign M.2.1 D m ((V.2.2.2.1.length : Int)) V.2.2.1 o_fo o_di ((V.2.2.2.2.length : Int)) o_az V.1 l k (by omega) (by omega)) rfl rfl ⟨Nat.le_of_ble_eq_true rfl, Nat.le_of_ble_eq_true rfl⟩ ⟨Nat.le_of_ble_eq_true rfl, Nat.le_of_ble_eq_true rfl⟩ rfl rfl (Nat.le_of_ble_eq_true rfl) l_o rfl rfl ⟨l_o, l_n⟩ fr_none' (x_rd (fun v_55 hv_55 => ?_))
                    obtain ⟨rfl, gb_57⟩ := hv_55
                    show X _ _ _ _ _ _ _ _ _ [zV (gA (V.1.1 l) k)] _
                    refine x_istore (L' := [(4, zV (gA (V.1.1 l) k)), (3, zV k), (2, zV n), (1, zV l), (0, .ref m)]) ho d_MO_square_80 (by decide) rfl ?_
                    refine x_iconst ho d_MO_square_82 ?_
                    refine x_istore (L' := [(5, zV 0), (4, zV (gA (V.1.1 l) k)), (3, zV k), (2, zV n), (1, zV l), (0, .ref m)]) ho d_MO_square_83 (by decide) rfl ?_
                    have loop_85 : ∀ (kk : Nat) (i : Int) (n : Int) (T : Int → Int) (H_58 : Heap) (l_o : At D H_58 m (oO 11 [.ref (m + 1), .ref (m + 2), zV ((V.2.2.2.1.length : Int)), .ref (m + 3), zV V.2.2.1, .ref (m + 4), .ref (m + 5), .ref (m + 6), zV o_fo, .ref (m + 7), zV o_di, zV ((V.2.2.2.2.length : Int)), .ref (m + 8), zV o_az, .ref (m + 9), .ref (m + 10), .ref (m + 11)])) (l_n : isN D H_58 (m + 1) V.1) (l_h : isHm D H_58 (m + 2) V.2.2.2.1) (l_s : isSl D H_58 (m + 3) V.2.2.1 V.2.1) (l_t : At D H_58 (m + 4) (oI D 301 T)) (l_b : At D H_58 (m + 5) (oI D 301 o_b)) (l_p : At D H_58 (m + 6) (oI D 300 o_p)) (l_u : At D H_58 (m + 7) (oI D 300 o_u)) (l_x : isTx D H_58 (m + 8) V.2.2.2.2) (l_c : At D H_58 (m + 9) (oI D 16 o_c)) (l_e : At D H_58 (m + 10) (oI D 16 o_e)) (l_y : At D H_58 (m + 11) (oI D 4 o_y)) (i0 : 0 ≤ i ∧ i ≤ ((V.1.1 (gA (V.1.1 l) k)).length : Int)) (hn : n = ((imW V.1.1 (tk (V.1.1 l) k)).length : Int) + i) (hP : rpP T (fun i => imW V.1.1 (V.1.1 i)) l) (hK : rpK T (imW V.1.1 (V.1.1 l)) l n), (((V.1.1 (gA (V.1.1 l) k)).length : Int) - i).toNat < kk → X M ({ frames := 2, cells := 0, slots := 0, locals := 45 } : Room) 6 (rA m (m + 12)) 0 0 (Qof M (rA m (m + 12)) (q_MO_square D m V) 0 0) 85 [(5, zV i), (4, zV (gA (V.1.1 l) k)), (3, zV k), (2, zV n), (1, zV l), (0, .ref m)] [] H_58 := by
                      intro kk
                      induction kk with
                      | zero => intro i n T H_58 l_o l_n l_h l_s l_t l_b l_p l_u l_x l_c l_e l_y i0 hn hP hK hk; exact absurd hk (Nat.not_lt_zero _)
                      | succ kk ih_85 =>
                        intro i n T H_58 l_o l_n l_h l_s l_t l_b l_p l_u l_x l_c l_e l_y i0 hn hP hK hk_85
                        refine x_iload ho 0 d_MO_square_85 rfl ?_
                        refine x_aload_n ho 5 d_MO_square_87 rfl ?_
                        refine x_iload ho 1 d_MO_square_88 rfl ?_
                        refine x_callV (rest := [zV i]) ho d_MO_square_90 yv_MO_size g_829 g_26 g_828 (c_MO_size M.2.1 D m ((V.2.2.2.1.length : Int)) V.2.2.1 o_fo o_di ((V.2.2.2.2.length : Int)) o_az V.1 (gA (V.1.1 l) k) (by omega)) rfl rfl ⟨Nat.le_of_ble_eq_true rfl, Nat.le_of_ble_eq_true rfl⟩ ⟨Nat.le_of_ble_eq_true rfl, Nat.le_of_ble_eq_true rfl⟩ rfl rfl (Nat.le_of_ble_eq_true rfl) l_o rfl rfl ⟨l_o, l_n⟩ fr_none' (x_rd (fun v_59 hv_59 => ?_))
                        obtain ⟨rfl, sb_61⟩ := hv_59
                        show X _ _ _ _ _ _ _ _ _ [zV (((V.1.1 (gA (V.1.1 l) k)).length : Int)), zV i] _
                        refine x_icmp_ge (tgt := 126) ho d_MO_square_93 (by decide) (by omega) (by omega) (fun c_93 => ?_) (fun c_93 => ?_)
                        ·
                          refine x_iinc (L' := [(3, zV (k + 1)), (5, zV i), (4, zV (gA (V.1.1 l) k)), (2, zV n), (1, zV l), (0, .ref m)]) ho 2 d_MO_square_126 rfl rfl (by decide) rfl ?_
                          refine x_goto (tgt := 65) ho d_MO_square_129 (by decide) ?_
                          refine x_sub (L' := [(3, zV (k + 1)), (2, zV n), (1, zV l), (0, .ref m)]) [0, 3, 4, 5] rfl ?_
                          exact ih_65 (k + 1) n T H_58 l_o l_n l_h l_s l_t l_b l_p l_u l_x l_c l_e l_y (by omega) (by omega) (by rw [imW_nx (by omega) (by omega)]; omega) (by exact hP) (by exact hK) (by omega)
                        ·
                          refine x_aload_n ho 5 d_MO_square_96 rfl ?_
                          refine x_get 5 ho d_MO_square_97 cl_MO (by decide) g_762 l_o rfl ?_
                          refine x_bipush (z := 9) ho d_MO_square_100 (by decide) ?_
                          refine x_iload_n ho 4 d_MO_square_102 rfl ?_
                          refine x_imul ho d_MO_square_103 ?_
                          refine x_iconst ho d_MO_square_104 ?_
                          refine x_iadd ho d_MO_square_105 ?_
                          refine x_iload_n ho 3 d_MO_square_106 rfl ?_
                          refine x_iadd ho d_MO_square_107 ?_
                          refine x_aload_n ho 5 d_MO_square_108 rfl ?_
                          refine x_iload ho 1 d_MO_square_109 rfl ?_
                          refine x_iload ho 0 d_MO_square_111 rfl ?_
                          refine x_callV (rest := [zV (((9 * l) + 1) + n), .ref (m + 4)]) ho d_MO_square_113 yv_MO_sign g_832 g_27 g_831 (c_MO_sign M.2.1 D m ((V.2.2.2.1.length : Int)) V.2.2.1 o_fo o_di ((V.2.2.2.2.length : Int)) o_az V.1 (gA (V.1.1 l) k) i (by omega) (by omega)) rfl rfl ⟨Nat.le_of_ble_eq_true rfl, Nat.le_of_ble_eq_true rfl⟩ ⟨Nat.le_of_ble_eq_true rfl, Nat.le_of_ble_eq_true rfl⟩ rfl rfl (Nat.le_of_ble_eq_true rfl) l_o rfl rfl ⟨l_o, l_n⟩ fr_none' (x_rd (fun v_62 hv_62 => ?_))
                          obtain ⟨rfl, gb_64⟩ := hv_62
                          show X _ _ _ _ _ _ _ _ _ [zV (gA (V.1.1 (gA (V.1.1 l) k)) i), zV (((9 * l) + 1) + n), .ref (m + 4)] _
                          refine x_iast ho d_MO_square_116 l_t (by omega) (by omega) (by omega) (rA_in (by omega) (by omega)) (fun H_65 p_66 z_67 q_68 => ?_)
                          have k_69 := l_o.kept (q_68 _ (by omega))
                          have k_70 := l_n.kept (q_68 _ (by omega))
                          have k_71 := l_h.kept (q_68 _ (by omega))
                          have k_72 := l_s.kept (q_68 _ (by omega))
                          have k_73 := l_b.kept (q_68 _ (by omega))
                          have k_74 := l_p.kept (q_68 _ (by omega))
                          have k_75 := l_u.kept (q_68 _ (by omega))
                          have k_76 := l_x.kept (q_68 _ (by omega))
                          have k_77 := l_c.kept (q_68 _ (by omega))
                          have k_78 := l_e.kept (q_68 _ (by omega))
                          have k_79 := l_y.kept (q_68 _ (by omega))
                          refine x_iinc (L' := [(2, zV (n + 1)), (5, zV i), (4, zV (gA (V.1.1 l) k)), (3, zV k), (1, zV l), (0, .ref m)]) ho 3 d_MO_square_117 rfl rfl (by decide) rfl ?_
                          refine x_iinc (L' := [(5, zV (i + 1)), (2, zV (n + 1)), (4, zV (gA (V.1.1 l) k)), (3, zV k), (1, zV l), (0, .ref m)]) ho 1 d_MO_square_120 rfl rfl (by decide) rfl ?_
                          refine x_goto (tgt := 85) ho d_MO_square_123 (by decide) ?_
                          refine x_sub (L' := [(5, zV (i + 1)), (4, zV (gA (V.1.1 l) k)), (3, zV k), (2, zV (n + 1)), (1, zV l), (0, .ref m)]) [0, 2, 3, 1, 4, 5] rfl ?_
                          exact ih_85 (i + 1) (n + 1) (zU T (9 * l + 1 + n) (gA (V.1.1 (gA (V.1.1 l) k)) i)) H_65 k_69 k_70 k_71 k_72 p_66 k_73 k_74 k_75 k_76 k_77 k_78 k_79 (by omega) (by omega) (by exact rpP_z hP h8l (by omega)) (by exact rpK_put hK rfl (by rw [hn]; exact (imW_at (by omega) (by omega) i0.1 (by omega)).symm)) (by omega)
                    exact loop_85 _ 0 n T H_36 l_o l_n l_h l_s l_t l_b l_p l_u l_x l_c l_e l_y (by omega) (by omega) (by exact hP) (by exact hK) (Nat.lt_succ_self _)
              exact loop_65 _ 0 0 T H_1 l_o l_n l_h l_s l_t l_b l_p l_u l_x l_c l_e l_y (by omega) (by omega) (by rw [tk_0]; rfl) (by exact hP) (by exact rpK_0) (Nat.lt_succ_self _)
        exact loop_56 _ 0 o_t H a_o a_n a_h a_s a_t a_b a_p a_u a_x a_c a_e a_y (by omega) (by exact rpP_0) (Nat.lt_succ_self _)
      ·
        refine x_iconst ho d_MO_square_7 ?_
        refine x_istore_n (L' := [(2, zV 0), (1, zV l), (0, .ref m)]) ho d_MO_square_8 (by decide) rfl ?_
        refine x_iconst ho d_MO_square_9 ?_
        refine x_istore_n (L' := [(3, zV 0), (2, zV 0), (1, zV l), (0, .ref m)]) ho d_MO_square_10 (by decide) rfl ?_
        have loop_11 : ∀ (kk : Nat) (k : Int) (n : Int) (k0 : 0 ≤ k ∧ k ≤ ((V.1.1 l).length : Int)) (nb : 0 ≤ n ∧ n ≤ 8 * k) (hn : n = ((imW V.1.1 (tk (V.1.1 l) k)).length : Int)), (((V.1.1 l).length : Int) - k).toNat < kk → X M ({ frames := 2, cells := 0, slots := 0, locals := 45 } : Room) 6 (rA m (m + 12)) 0 0 (Qof M (rA m (m + 12)) (q_MO_square D m V) 0 0) 11 [(3, zV k), (2, zV n), (1, zV l), (0, .ref m)] [] H := by
          intro kk
          induction kk with
          | zero => intro k n k0 nb hn hk; exact absurd hk (Nat.not_lt_zero _)
          | succ kk ih_11 =>
            intro k n k0 nb hn hk_11
            refine x_iload_n ho 0 d_MO_square_11 rfl ?_
            refine x_aload_n ho 3 d_MO_square_12 rfl ?_
            refine x_iload_n ho 2 d_MO_square_13 rfl ?_
            refine x_callV (rest := [zV k]) ho d_MO_square_14 yv_MO_size g_829 g_26 g_828 (c_MO_size M.2.1 D m ((V.2.2.2.1.length : Int)) V.2.2.1 o_fo o_di ((V.2.2.2.2.length : Int)) o_az V.1 l (by omega)) rfl rfl ⟨Nat.le_of_ble_eq_true rfl, Nat.le_of_ble_eq_true rfl⟩ ⟨Nat.le_of_ble_eq_true rfl, Nat.le_of_ble_eq_true rfl⟩ rfl rfl (Nat.le_of_ble_eq_true rfl) a_o rfl rfl ⟨a_o, a_n⟩ fr_none' (x_rd (fun v_80 hv_80 => ?_))
            obtain ⟨rfl, sb_82⟩ := hv_80
            show X _ _ _ _ _ _ _ _ _ [zV (((V.1.1 l).length : Int)), zV k] _
            refine x_icmp_ge (tgt := 39) ho d_MO_square_17 (by decide) (by omega) (by omega) (fun c_17 => ?_) (fun c_17 => ?_)
            ·
              refine x_iload_n ho 1 d_MO_square_39 rfl ?_
              have hs9 := n_1 l (by omega) (by omega)
              rw [tk_all (by omega)] at hn
              refine x_bipush (z := 8) ho d_MO_square_40 (by decide) ?_
              refine x_icmp_le (tgt := 48) ho d_MO_square_42 (by decide) (by omega) (by omega) (fun c_42 => ?_) (fun c_42 => ?_)
              ·
                refine x_iinc (L' := [(1, zV (l + 1)), (3, zV k), (2, zV n), (0, .ref m)]) ho 2 d_MO_square_48 rfl rfl (by decide) rfl ?_
                refine x_goto (tgt := 2) ho d_MO_square_51 (by decide) ?_
                refine x_sub (L' := [(1, zV (l + 1)), (0, .ref m)]) [0, 3] rfl ?_
                exact ih_2 (l + 1) (by omega) (by intro i p q; rcases (show i < l ∨ i = l by omega) with z | z; exact h8 i p z; rw [z]; omega) (by omega)
              ·
                refine x_bipush (z := (-3)) ho d_MO_square_45 (by decide) ?_
                refine x_iret ho hr d_MO_square_47 ?_
                have e : m_square V = (-3, V) := by unfold m_square; rw [cif_f (fun q => by have := q l (by omega) (by omega); omega)]
                exact ⟨by rw [e], by rw [e]; exact isO_mk a_o a_n a_h a_s a_t a_b a_p a_u a_x a_c a_e a_y a_k⟩
            ·
              have hgr := gA_r (n_1 l (by omega) (by omega)).2.2 k
              have hsz := n_1 _ hgr.1 hgr.2
              have hs9 := n_1 l (by omega) (by omega)
              refine x_iload_n ho 1 d_MO_square_20 rfl ?_
              refine x_aload_n ho 3 d_MO_square_21 rfl ?_
              refine x_aload_n ho 3 d_MO_square_22 rfl ?_
              refine x_iload_n ho 2 d_MO_square_23 rfl ?_
              refine x_iload_n ho 0 d_MO_square_24 rfl ?_
              refine x_callV (rest := [.ref m, zV n]) ho d_MO_square_25 yv_MO_sign g_832 g_27 g_831 (c_MO_sign M.2.1 D m ((V.2.2.2.1.length : Int)) V.2.2.1 o_fo o_di ((V.2.2.2.2.length : Int)) o_az V.1 l k (by omega) (by omega)) rfl rfl ⟨Nat.le_of_ble_eq_true rfl, Nat.le_of_ble_eq_true rfl⟩ ⟨Nat.le_of_ble_eq_true rfl, Nat.le_of_ble_eq_true rfl⟩ rfl rfl (Nat.le_of_ble_eq_true rfl) a_o rfl rfl ⟨a_o, a_n⟩ fr_none' (x_rd (fun v_83 hv_83 => ?_))
              obtain ⟨rfl, gb_85⟩ := hv_83
              show X _ _ _ _ _ _ _ _ _ [zV (gA (V.1.1 l) k), .ref m, zV n] _
              refine x_callV (rest := [zV n]) ho d_MO_square_28 yv_MO_size g_829 g_26 g_828 (c_MO_size M.2.1 D m ((V.2.2.2.1.length : Int)) V.2.2.1 o_fo o_di ((V.2.2.2.2.length : Int)) o_az V.1 (gA (V.1.1 l) k) (by omega)) rfl rfl ⟨Nat.le_of_ble_eq_true rfl, Nat.le_of_ble_eq_true rfl⟩ ⟨Nat.le_of_ble_eq_true rfl, Nat.le_of_ble_eq_true rfl⟩ rfl rfl (Nat.le_of_ble_eq_true rfl) a_o rfl rfl ⟨a_o, a_n⟩ fr_none' (x_rd (fun v_86 hv_86 => ?_))
              obtain ⟨rfl, sb_88⟩ := hv_86
              show X _ _ _ _ _ _ _ _ _ [zV (((V.1.1 (gA (V.1.1 l) k)).length : Int)), zV n] _
              refine x_iadd ho d_MO_square_31 ?_
              refine x_istore_n (L' := [(2, zV (n + (((V.1.1 (gA (V.1.1 l) k)).length : Int)))), (3, zV k), (1, zV l), (0, .ref m)]) ho d_MO_square_32 (by decide) rfl ?_
              refine x_iinc (L' := [(3, zV (k + 1)), (2, zV (n + (((V.1.1 (gA (V.1.1 l) k)).length : Int)))), (1, zV l), (0, .ref m)]) ho 1 d_MO_square_33 rfl rfl (by decide) rfl ?_
              refine x_goto (tgt := 11) ho d_MO_square_36 (by decide) ?_
              exact ih_11 (k + 1) (n + (((V.1.1 (gA (V.1.1 l) k)).length : Int))) (by omega) (by omega) (by rw [imW_nx (by omega) (by omega), hn]) (by omega)
        exact loop_11 _ 0 0 (by omega) (by omega) (by rw [tk_0]; rfl) (Nat.lt_succ_self _)
  exact loop_2 _ 0 (by omega) (by exact fun i p q => by omega) (Nat.lt_succ_self _)
def q_MO_shift (D : GG) (m : Nat) (V : WV) (P : Prop) : Option Value → Heap → Prop := fun v0 H => v0 = some (zV ((m_shift P V).1)) ∧ isO D H m ((m_shift P V).2)
theorem yv_MO_shift : Yv y_MO_shift b_MO_shift 6 (Option.some FieldType.int) 1 := ⟨g_850, g_65, by decide, by decide +kernel⟩
set_option maxHeartbeats 4000000 in
set_option maxRecDepth 100000 in
theorem c_MO_shift (l0 : Launch) (D : GG) (m : Nat) (V : WV) (P : Prop)  : Ct l0 D y_MO_shift b_MO_shift 6 (Option.some FieldType.int) ({ frames := 2, cells := 0, slots := 0, locals := 45 } : Room) [.ref m, zV (bI P)] (fun H => isO D H m V) (rA m (m + 12)) 0 0 (q_MO_shift D m V P) := by
  refine Ct.of (L := [(0, .ref m), (1, zV (bI P))]) (by decide) (Nat.le_of_ble_eq_true rfl) rfl (fun M H ho hr hnm hH hpre => ?_)
  have hW := hpre
  obtain ⟨o_fo, o_di, o_az, o_t, o_b, o_p, o_u, o_c, o_e, o_y, a_o, a_n, a_h, a_s, a_t, a_b, a_p, a_u, a_x, a_c, a_e, a_y, a_k⟩ := id hW
  have n_o := a_n.ok
  have n_1 := n_o.1
  have n_2 := n_o.2.1
  have n_3 := n_o.2.2
  have h_b := a_h.b
  refine x_aload_n ho 0 d_MO_shift_0 rfl ?_
  have hs0 := n_1 0 (by omega) (by omega)
  refine x_iconst ho d_MO_shift_1 ?_
  refine x_iload_n ho 1 d_MO_shift_2 rfl ?_
  refine x_if_eqB (tgt := 16) ho d_MO_shift_3 (by decide) (fun c_3 => ?_) (fun c_3 => ?_)
  ·
    refine x_iconst ho d_MO_shift_16 ?_
    refine x_callV (rest := []) ho d_MO_shift_17 yv_MO_sign g_832 g_27 g_831 (c_MO_sign M.2.1 D m ((V.2.2.2.1.length : Int)) V.2.2.1 o_fo o_di ((V.2.2.2.2.length : Int)) o_az V.1 0 0 (by omega) (by omega)) rfl rfl ⟨Nat.le_of_ble_eq_true rfl, Nat.le_of_ble_eq_true rfl⟩ ⟨Nat.le_of_ble_eq_true rfl, Nat.le_of_ble_eq_true rfl⟩ rfl rfl (Nat.le_of_ble_eq_true rfl) a_o rfl rfl ⟨a_o, a_n⟩ fr_none' (x_rd (fun v_1 hv_1 => ?_))
    obtain ⟨rfl, gb_3⟩ := hv_1
    show X _ _ _ _ _ _ _ _ _ [zV (gA (V.1.1 0) 0)] _
    refine x_eqI (b := ende P (V.1.1 0)) (by rw [ende_f c_3, lat_in (by omega) (by omega)]) ?_
    have her : 0 ≤ ende P (V.1.1 0) ∧ ende P (V.1.1 0) < 4 := by rw [ende_f c_3, lat_in (by omega) (by omega)]; exact gA_r hs0.2.2 _
    refine x_istore_n (L' := [(2, zV (ende P (V.1.1 0))), (0, .ref m), (1, zV (bI P))]) ho d_MO_shift_20 (by decide) rfl ?_
    refine x_iconst ho d_MO_shift_21 ?_
    refine x_istore_n (L' := [(3, zV 0), (2, zV (ende P (V.1.1 0))), (0, .ref m), (1, zV (bI P))]) ho d_MO_shift_22 (by decide) rfl ?_
    have loop_23 : ∀ (kk : Nat) (l : Int) (T : Int → Int) (H_4 : Heap) (l_o : At D H_4 m (oO 11 [.ref (m + 1), .ref (m + 2), zV ((V.2.2.2.1.length : Int)), .ref (m + 3), zV V.2.2.1, .ref (m + 4), .ref (m + 5), .ref (m + 6), zV o_fo, .ref (m + 7), zV o_di, zV ((V.2.2.2.2.length : Int)), .ref (m + 8), zV o_az, .ref (m + 9), .ref (m + 10), .ref (m + 11)])) (l_n : isN D H_4 (m + 1) V.1) (l_h : isHm D H_4 (m + 2) V.2.2.2.1) (l_s : isSl D H_4 (m + 3) V.2.2.1 V.2.1) (l_t : At D H_4 (m + 4) (oI D 301 T)) (l_b : At D H_4 (m + 5) (oI D 301 o_b)) (l_p : At D H_4 (m + 6) (oI D 300 o_p)) (l_u : At D H_4 (m + 7) (oI D 300 o_u)) (l_x : isTx D H_4 (m + 8) V.2.2.2.2) (l_c : At D H_4 (m + 9) (oI D 16 o_c)) (l_e : At D H_4 (m + 10) (oI D 16 o_e)) (l_y : At D H_4 (m + 11) (oI D 4 o_y)) (l0 : 0 ≤ l ∧ l ≤ 4) (hP : rpP T (fun i => rot P (V.1.1 i)) l) (hE : ∀ i : Int, 0 ≤ i → i < l → ende P (V.1.1 i) = ende P (V.1.1 0)), (4 - l).toNat < kk → X M ({ frames := 2, cells := 0, slots := 0, locals := 45 } : Room) 6 (rA m (m + 12)) 0 0 (Qof M (rA m (m + 12)) (q_MO_shift D m V P) 0 0) 23 [(3, zV l), (2, zV (ende P (V.1.1 0))), (0, .ref m), (1, zV (bI P))] [] H_4 := by
      intro kk
      induction kk with
      | zero => intro l T H_4 l_o l_n l_h l_s l_t l_b l_p l_u l_x l_c l_e l_y l0 hP hE hk; exact absurd hk (Nat.not_lt_zero _)
      | succ kk ih_23 =>
        intro l T H_4 l_o l_n l_h l_s l_t l_b l_p l_u l_x l_c l_e l_y l0 hP hE hk_23
        refine x_iload_n ho 0 d_MO_shift_23 rfl ?_
        refine x_iconst ho d_MO_shift_24 ?_
        refine x_icmp_ge (tgt := 135) ho d_MO_shift_25 (by decide) (by omega) (by omega) (fun c_25 => ?_) (fun c_25 => ?_)
        ·
          have hR : rpR T (fun i => rot P (V.1.1 i)) := fun i p q => hP i p (by omega)
          have hOK := okR_rot (P := P) n_1
          have hcm : comE P V.1.1 = ende P (V.1.1 0) := comE_t (fun i p q => hE i (by omega) (by omega))
          refine x_aload_n ho 2 d_MO_shift_135 rfl ?_
          refine x_callV (rest := []) ho d_MO_shift_136 yv_MO_isSameRule g_826 g_25 g_825 (c_MO_isSameRule M.2.1 D m ((V.2.2.2.1.length : Int)) V.2.2.1 o_fo o_di ((V.2.2.2.2.length : Int)) o_az V.1 T (fun i => rot P (V.1.1 i)) (by exact hR) (by exact okR_w hOK)) rfl rfl ⟨Nat.le_of_ble_eq_true rfl, Nat.le_of_ble_eq_true rfl⟩ ⟨Nat.le_of_ble_eq_true rfl, Nat.le_of_ble_eq_true rfl⟩ rfl rfl (Nat.le_of_ble_eq_true rfl) l_o rfl rfl ⟨l_o, l_n, l_t⟩ fr_none' (x_rd (fun v_5 hv_5 => ?_))
          obtain rfl := hv_5
          show X _ _ _ _ _ _ _ _ _ [zV (bI (same4 (fun i => rot P (V.1.1 i)) V.1.1))] _
          refine x_if_eqB (tgt := 145) ho d_MO_shift_139 (by decide) (fun c_139 => ?_) (fun c_139 => ?_)
          ·
            refine x_aload_n ho 2 d_MO_shift_145 rfl ?_
            refine x_callV (rest := []) ho d_MO_shift_146 yv_MO_record g_835 g_28 g_834 (c_MO_record M.2.1 D m V.2.2.1 o_fo o_di ((V.2.2.2.2.length : Int)) o_az V.1 V.2.2.2.1 ) rfl rfl ⟨Nat.le_of_ble_eq_true rfl, Nat.le_of_ble_eq_true rfl⟩ ⟨Nat.le_of_ble_eq_true rfl, Nat.le_of_ble_eq_true rfl⟩ rfl rfl (Nat.le_of_ble_eq_true rfl) l_o rfl rfl ⟨l_o, l_n, l_h⟩ (rA_sub (by omega) (by omega)) (fun v_7 H_9 hv_7 f_8 => ?_)
            have k_10 := l_s.kept (f_8.2 _ l_s.lt (rA_no (by omega)))
            have k_11 := l_t.kept (f_8.2 _ l_t.lt (rA_no (by omega)))
            have k_12 := l_b.kept (f_8.2 _ l_b.lt (rA_no (by omega)))
            have k_13 := l_p.kept (f_8.2 _ l_p.lt (rA_no (by omega)))
            have k_14 := l_u.kept (f_8.2 _ l_u.lt (rA_no (by omega)))
            have k_15 := l_x.kept (f_8.2 _ l_x.lt (rA_no (by omega)))
            have k_16 := l_c.kept (f_8.2 _ l_c.lt (rA_no (by omega)))
            have k_17 := l_e.kept (f_8.2 _ l_e.lt (rA_no (by omega)))
            have k_18 := l_y.kept (f_8.2 _ l_y.lt (rA_no (by omega)))
            obtain ⟨rfl, t_o_19, t_n_20, t_h_21⟩ := hv_7
            show X _ _ _ _ _ _ _ _ _ [] _
            refine x_aload_n ho 2 d_MO_shift_149 rfl ?_
            refine x_callV (rest := []) ho d_MO_shift_150 yv_MO_laysRule g_838 g_29 g_837 (c_MO_laysRule M.2.1 D m (((recH V.2.2.2.1 V.1).length : Int)) V.2.2.1 o_fo o_di ((V.2.2.2.2.length : Int)) o_az V.1 T (fun i => rot P (V.1.1 i)) (by exact hR) (by exact hOK)) rfl rfl ⟨Nat.le_of_ble_eq_true rfl, Nat.le_of_ble_eq_true rfl⟩ ⟨Nat.le_of_ble_eq_true rfl, Nat.le_of_ble_eq_true rfl⟩ rfl rfl (Nat.le_of_ble_eq_true rfl) t_o_19 rfl rfl ⟨t_o_19, t_n_20, k_11⟩ (rA_sub (by omega) (by omega)) (fun v_22 H_24 hv_22 f_23 => ?_)
            have k_25 := k_10.kept (f_23.2 _ k_10.lt (rA_no (by omega)))
            have k_26 := k_12.kept (f_23.2 _ k_12.lt (rA_no (by omega)))
            have k_27 := k_13.kept (f_23.2 _ k_13.lt (rA_no (by omega)))
            have k_28 := k_14.kept (f_23.2 _ k_14.lt (rA_no (by omega)))
            have k_29 := k_15.kept (f_23.2 _ k_15.lt (rA_no (by omega)))
            have k_30 := k_16.kept (f_23.2 _ k_16.lt (rA_no (by omega)))
            have k_31 := k_17.kept (f_23.2 _ k_17.lt (rA_no (by omega)))
            have k_32 := k_18.kept (f_23.2 _ k_18.lt (rA_no (by omega)))
            have k_33 := t_h_21.kept (f_23.2 _ t_h_21.lt (rA_no (by omega)))
            obtain ⟨rfl, t_o_34, t_n_35, t_t_36⟩ := hv_22
            show X _ _ _ _ _ _ _ _ _ [] _
            refine x_iload_n ho 1 d_MO_shift_153 rfl ?_
            refine x_iret ho hr d_MO_shift_154 ?_
            have e : m_shift P V = (comE P V.1.1, act (fun i => rot P (V.1.1 i), V.1.2) V) := by unfold m_shift; rw [cif_f (by omega), cif_f (c_139)]
            exact ⟨rI (by rw [e]; exact hcm.symm), by rw [e]; exact isO_mk t_o_34 t_n_35 k_33 k_25 t_t_36 k_26 k_27 k_28 k_29 k_30 k_31 k_32 a_k⟩
          ·
            refine x_bipush (z := (-5)) ho d_MO_shift_142 (by decide) ?_
            refine x_iret ho hr d_MO_shift_144 ?_
            have e : m_shift P V = (-5, V) := by unfold m_shift; rw [cif_f (by omega), cif_t (c_139)]
            exact ⟨by rw [e], by rw [e]; exact isO_mk l_o l_n l_h l_s l_t l_b l_p l_u l_x l_c l_e l_y a_k⟩
        ·
          have h8l : ∀ i : Int, 0 ≤ i → i < l → (((fun i => rot P (V.1.1 i)) i).length : Int) ≤ 8 := fun i p q => (okR_rot n_1 i p (by omega)).2.1
          have hs9 := n_1 l (by omega) (by omega)
          refine x_aload_n ho 2 d_MO_shift_28 rfl ?_
          refine x_iload_n ho 0 d_MO_shift_29 rfl ?_
          refine x_callV (rest := []) ho d_MO_shift_30 yv_MO_size g_829 g_26 g_828 (c_MO_size M.2.1 D m ((V.2.2.2.1.length : Int)) V.2.2.1 o_fo o_di ((V.2.2.2.2.length : Int)) o_az V.1 l (by omega)) rfl rfl ⟨Nat.le_of_ble_eq_true rfl, Nat.le_of_ble_eq_true rfl⟩ ⟨Nat.le_of_ble_eq_true rfl, Nat.le_of_ble_eq_true rfl⟩ rfl rfl (Nat.le_of_ble_eq_true rfl) l_o rfl rfl ⟨l_o, l_n⟩ fr_none' (x_rd (fun v_37 hv_37 => ?_))
          obtain ⟨rfl, sb_39⟩ := hv_37
          show X _ _ _ _ _ _ _ _ _ [zV (((V.1.1 l).length : Int))] _
          refine x_istore (L' := [(4, zV (((V.1.1 l).length : Int))), (3, zV l), (2, zV (ende P (V.1.1 0))), (0, .ref m), (1, zV (bI P))]) ho d_MO_shift_33 (by decide) rfl ?_
          refine x_aload_n ho 3 d_MO_shift_35 rfl ?_
          refine x_iload_n ho 1 d_MO_shift_36 rfl ?_
          refine x_iload_n ho 4 d_MO_shift_37 rfl ?_
          refine x_if_eqB (tgt := 48) ho d_MO_shift_38 (by decide) (fun c_38 => ?_) (fun c_38 => ?_)
          ·
            refine x_iconst ho d_MO_shift_48 ?_
            refine x_callV (rest := []) ho d_MO_shift_49 yv_MO_sign g_832 g_27 g_831 (c_MO_sign M.2.1 D m ((V.2.2.2.1.length : Int)) V.2.2.1 o_fo o_di ((V.2.2.2.2.length : Int)) o_az V.1 l 0 (by omega) (by omega)) rfl rfl ⟨Nat.le_of_ble_eq_true rfl, Nat.le_of_ble_eq_true rfl⟩ ⟨Nat.le_of_ble_eq_true rfl, Nat.le_of_ble_eq_true rfl⟩ rfl rfl (Nat.le_of_ble_eq_true rfl) l_o rfl rfl ⟨l_o, l_n⟩ fr_none' (x_rd (fun v_40 hv_40 => ?_))
            obtain ⟨rfl, gb_42⟩ := hv_40
            show X _ _ _ _ _ _ _ _ _ [zV (gA (V.1.1 l) 0)] _
            refine x_eqI (b := ende P (V.1.1 l)) (by rw [ende_f c_3, lat_in (by omega) (by omega)]) ?_
            have hlr : 0 ≤ ende P (V.1.1 l) ∧ ende P (V.1.1 l) < 4 := by rw [ende_f c_3, lat_in (by omega) (by omega)]; exact gA_r hs9.2.2 _
            refine x_iload_n ho 2 d_MO_shift_52 rfl ?_
            refine x_icmp_eq (tgt := 59) ho d_MO_shift_53 (by decide) (by omega) (by omega) (fun c_53 => ?_) (fun c_53 => ?_)
            ·
              refine x_aload_n ho 3 d_MO_shift_59 rfl ?_
              refine x_get 5 ho d_MO_shift_60 cl_MO (by decide) g_762 l_o rfl ?_
              refine x_bipush (z := 9) ho d_MO_shift_63 (by decide) ?_
              refine x_iload_n ho 1 d_MO_shift_65 rfl ?_
              refine x_imul ho d_MO_shift_66 ?_
              refine x_iload ho 0 d_MO_shift_67 rfl ?_
              refine x_iast ho d_MO_shift_69 l_t (by omega) (by omega) (by omega) (rA_in (by omega) (by omega)) (fun H_43 p_44 z_45 q_46 => ?_)
              have k_47 := l_o.kept (q_46 _ (by omega))
              have k_48 := l_n.kept (q_46 _ (by omega))
              have k_49 := l_h.kept (q_46 _ (by omega))
              have k_50 := l_s.kept (q_46 _ (by omega))
              have k_51 := l_b.kept (q_46 _ (by omega))
              have k_52 := l_p.kept (q_46 _ (by omega))
              have k_53 := l_u.kept (q_46 _ (by omega))
              have k_54 := l_x.kept (q_46 _ (by omega))
              have k_55 := l_c.kept (q_46 _ (by omega))
              have k_56 := l_e.kept (q_46 _ (by omega))
              have k_57 := l_y.kept (q_46 _ (by omega))
              refine x_iconst ho d_MO_shift_70 ?_
              refine x_istore (L' := [(5, zV 0), (4, zV (((V.1.1 l).length : Int))), (3, zV l), (2, zV (ende P (V.1.1 0))), (0, .ref m), (1, zV (bI P))]) ho d_MO_shift_71 (by decide) rfl ?_
              have loop_73 : ∀ (kk : Nat) (k : Int) (T : Int → Int) (H_58 : Heap) (l_o : At D H_58 m (oO 11 [.ref (m + 1), .ref (m + 2), zV ((V.2.2.2.1.length : Int)), .ref (m + 3), zV V.2.2.1, .ref (m + 4), .ref (m + 5), .ref (m + 6), zV o_fo, .ref (m + 7), zV o_di, zV ((V.2.2.2.2.length : Int)), .ref (m + 8), zV o_az, .ref (m + 9), .ref (m + 10), .ref (m + 11)])) (l_n : isN D H_58 (m + 1) V.1) (l_h : isHm D H_58 (m + 2) V.2.2.2.1) (l_s : isSl D H_58 (m + 3) V.2.2.1 V.2.1) (l_t : At D H_58 (m + 4) (oI D 301 T)) (l_b : At D H_58 (m + 5) (oI D 301 o_b)) (l_p : At D H_58 (m + 6) (oI D 300 o_p)) (l_u : At D H_58 (m + 7) (oI D 300 o_u)) (l_x : isTx D H_58 (m + 8) V.2.2.2.2) (l_c : At D H_58 (m + 9) (oI D 16 o_c)) (l_e : At D H_58 (m + 10) (oI D 16 o_e)) (l_y : At D H_58 (m + 11) (oI D 4 o_y)) (k0 : 0 ≤ k ∧ k ≤ ((V.1.1 l).length : Int)) (hP : rpP T (fun i => rot P (V.1.1 i)) l) (hs : T (9 * l) = ((V.1.1 l).length : Int)) (hK : rpK T (rot P (V.1.1 l)) l k), (((V.1.1 l).length : Int) - k).toNat < kk → X M ({ frames := 2, cells := 0, slots := 0, locals := 45 } : Room) 6 (rA m (m + 12)) 0 0 (Qof M (rA m (m + 12)) (q_MO_shift D m V P) 0 0) 73 [(5, zV k), (4, zV (((V.1.1 l).length : Int))), (3, zV l), (2, zV (ende P (V.1.1 0))), (0, .ref m), (1, zV (bI P))] [] H_58 := by
                intro kk
                induction kk with
                | zero => intro k T H_58 l_o l_n l_h l_s l_t l_b l_p l_u l_x l_c l_e l_y k0 hP hs hK hk; exact absurd hk (Nat.not_lt_zero _)
                | succ kk ih_73 =>
                  intro k T H_58 l_o l_n l_h l_s l_t l_b l_p l_u l_x l_c l_e l_y k0 hP hs hK hk_73
                  refine x_iload ho 0 d_MO_shift_73 rfl ?_
                  refine x_iload ho 1 d_MO_shift_75 rfl ?_
                  refine x_icmp_ge (tgt := 129) ho d_MO_shift_77 (by decide) (by omega) (by omega) (fun c_77 => ?_) (fun c_77 => ?_)
                  ·
                    refine x_iinc (L' := [(3, zV (l + 1)), (5, zV k), (4, zV (((V.1.1 l).length : Int))), (2, zV (ende P (V.1.1 0))), (0, .ref m), (1, zV (bI P))]) ho 2 d_MO_shift_129 rfl rfl (by decide) rfl ?_
                    refine x_goto (tgt := 23) ho d_MO_shift_132 (by decide) ?_
                    refine x_sub (L' := [(3, zV (l + 1)), (2, zV (ende P (V.1.1 0))), (0, .ref m), (1, zV (bI P))]) [0, 3, 4, 5] rfl ?_
                    exact ih_23 (l + 1) T H_58 l_o l_n l_h l_s l_t l_b l_p l_u l_x l_c l_e l_y (by omega) (by exact rpP_end hP (by show T (9 * l) = ((rot P (V.1.1 l)).length : Int); rw [rot_len]; exact hs) hK (by show ((rot P (V.1.1 l)).length : Int) ≤ k; rw [rot_len]; omega)) (by intro i p q; rcases (show i < l ∨ i = l by omega) with z | z; exact hE i p z; rw [z]; exact c_53) (by omega)
                  ·
                    refine x_aload_n ho 4 d_MO_shift_80 rfl ?_
                    refine x_get 5 ho d_MO_shift_81 cl_MO (by decide) g_762 l_o rfl ?_
                    refine x_bipush (z := 9) ho d_MO_shift_84 (by decide) ?_
                    refine x_iload_n ho 2 d_MO_shift_86 rfl ?_
                    refine x_imul ho d_MO_shift_87 ?_
                    refine x_iconst ho d_MO_shift_88 ?_
                    refine x_iadd ho d_MO_shift_89 ?_
                    refine x_iload ho 0 d_MO_shift_90 rfl ?_
                    refine x_iadd ho d_MO_shift_92 ?_
                    refine x_aload_n ho 4 d_MO_shift_93 rfl ?_
                    refine x_iload_n ho 2 d_MO_shift_94 rfl ?_
                    refine x_iload_n ho 5 d_MO_shift_95 rfl ?_
                    refine x_if_eqB (tgt := 112) ho d_MO_shift_96 (by decide) (fun c_96 => ?_) (fun c_96 => ?_)
                    ·
                      refine x_iload ho 0 d_MO_shift_112 rfl ?_
                      refine x_iconst ho d_MO_shift_114 ?_
                      refine x_iadd ho d_MO_shift_115 ?_
                      refine x_iload ho 1 d_MO_shift_116 rfl ?_
                      refine x_irem ho d_MO_shift_118 (by omega) (by omega) ?_
                      refine x_callV (rest := [zV (((9 * l) + 1) + k), .ref (m + 4)]) ho d_MO_shift_119 yv_MO_sign g_832 g_27 g_831 (c_MO_sign M.2.1 D m ((V.2.2.2.1.length : Int)) V.2.2.1 o_fo o_di ((V.2.2.2.2.length : Int)) o_az V.1 l ((k + 1) % (((V.1.1 l).length : Int))) (by omega) (by exact ⟨Int.emod_nonneg _ (by omega), Int.emod_lt_of_pos _ (by omega)⟩)) rfl rfl ⟨Nat.le_of_ble_eq_true rfl, Nat.le_of_ble_eq_true rfl⟩ ⟨Nat.le_of_ble_eq_true rfl, Nat.le_of_ble_eq_true rfl⟩ rfl rfl (Nat.le_of_ble_eq_true rfl) l_o rfl rfl ⟨l_o, l_n⟩ fr_none' (x_rd (fun v_59 hv_59 => ?_))
                      obtain ⟨rfl, gb_61⟩ := hv_59
                      show X _ _ _ _ _ _ _ _ _ [zV (gA (V.1.1 l) ((k + 1) % (((V.1.1 l).length : Int)))), zV (((9 * l) + 1) + k), .ref (m + 4)] _
                      refine x_eqI (b := gA (rot P (V.1.1 l)) k) (by rw [rot_f c_3, rot1_g (by omega) (by omega), md1 (by omega) (by omega)]; split <;> rfl) ?_
                      refine x_iast ho d_MO_shift_122 l_t (by omega) (by omega) (by omega) (rA_in (by omega) (by omega)) (fun H_62 p_63 z_64 q_65 => ?_)
                      have k_66 := l_o.kept (q_65 _ (by omega))
                      have k_67 := l_n.kept (q_65 _ (by omega))
                      have k_68 := l_h.kept (q_65 _ (by omega))
                      have k_69 := l_s.kept (q_65 _ (by omega))
                      have k_70 := l_b.kept (q_65 _ (by omega))
                      have k_71 := l_p.kept (q_65 _ (by omega))
                      have k_72 := l_u.kept (q_65 _ (by omega))
                      have k_73 := l_x.kept (q_65 _ (by omega))
                      have k_74 := l_c.kept (q_65 _ (by omega))
                      have k_75 := l_e.kept (q_65 _ (by omega))
                      have k_76 := l_y.kept (q_65 _ (by omega))
                      refine x_iinc (L' := [(5, zV (k + 1)), (4, zV (((V.1.1 l).length : Int))), (3, zV l), (2, zV (ende P (V.1.1 0))), (0, .ref m), (1, zV (bI P))]) ho 0 d_MO_shift_123 rfl rfl (by decide) rfl ?_
                      refine x_goto (tgt := 73) ho d_MO_shift_126 (by decide) ?_
                      exact ih_73 (k + 1) (zU T (9 * l + 1 + k) (gA (rot P (V.1.1 l)) k)) H_62 k_66 k_67 k_68 k_69 p_63 k_70 k_71 k_72 k_73 k_74 k_75 k_76 (by omega) (by exact rpP_z hP h8l (by omega)) (by rw [zU_n _ _ (by omega)]; exact hs) (by exact rpK_put hK rfl rfl) (by omega)
                    ·
                      exact absurd c_96 c_3
              exact loop_73 _ 0 (zU T (9 * l) (((V.1.1 l).length : Int))) H_43 k_47 k_48 k_49 k_50 p_44 k_51 k_52 k_53 k_54 k_55 k_56 k_57 (by omega) (by exact rpP_z hP h8l (by omega)) (by exact zU_s _ _ _) (by exact rpK_0) (Nat.lt_succ_self _)
            ·
              refine x_bipush (z := (-4)) ho d_MO_shift_56 (by decide) ?_
              refine x_iret ho hr d_MO_shift_58 ?_
              have hl1 : 1 ≤ l := by rcases (show 1 ≤ l ∨ l = 0 by omega) with z | z; exact z; subst z; exact absurd rfl c_53
              have e : m_shift P V = (-4, V) := by unfold m_shift; rw [cif_t (comE_f hl1 (by omega) c_53)]
              exact ⟨by rw [e], by rw [e]; exact isO_mk l_o l_n l_h l_s l_t l_b l_p l_u l_x l_c l_e l_y a_k⟩
          ·
            exact absurd c_38 c_3
    exact loop_23 _ 0 o_t H a_o a_n a_h a_s a_t a_b a_p a_u a_x a_c a_e a_y (by omega) (by exact rpP_0) (by exact fun i p q => by omega) (Nat.lt_succ_self _)
  ·
    refine x_aload_n ho 0 d_MO_shift_6 rfl ?_
    refine x_iconst ho d_MO_shift_7 ?_
    refine x_callV (rest := [zV 0, .ref m]) ho d_MO_shift_8 yv_MO_size g_829 g_26 g_828 (c_MO_size M.2.1 D m ((V.2.2.2.1.length : Int)) V.2.2.1 o_fo o_di ((V.2.2.2.2.length : Int)) o_az V.1 0 (by omega)) rfl rfl ⟨Nat.le_of_ble_eq_true rfl, Nat.le_of_ble_eq_true rfl⟩ ⟨Nat.le_of_ble_eq_true rfl, Nat.le_of_ble_eq_true rfl⟩ rfl rfl (Nat.le_of_ble_eq_true rfl) a_o rfl rfl ⟨a_o, a_n⟩ fr_none' (x_rd (fun v_77 hv_77 => ?_))
    obtain ⟨rfl, sb_79⟩ := hv_77
    show X _ _ _ _ _ _ _ _ _ [zV (((V.1.1 0).length : Int)), zV 0, .ref m] _
    refine x_iconst ho d_MO_shift_11 ?_
    refine x_isub ho d_MO_shift_12 ?_
    refine x_goto (tgt := 17) ho d_MO_shift_13 (by decide) ?_
    refine x_callV (rest := []) ho d_MO_shift_17 yv_MO_sign g_832 g_27 g_831 (c_MO_sign M.2.1 D m ((V.2.2.2.1.length : Int)) V.2.2.1 o_fo o_di ((V.2.2.2.2.length : Int)) o_az V.1 0 ((((V.1.1 0).length : Int)) - 1) (by omega) (by omega)) rfl rfl ⟨Nat.le_of_ble_eq_true rfl, Nat.le_of_ble_eq_true rfl⟩ ⟨Nat.le_of_ble_eq_true rfl, Nat.le_of_ble_eq_true rfl⟩ rfl rfl (Nat.le_of_ble_eq_true rfl) a_o rfl rfl ⟨a_o, a_n⟩ fr_none' (x_rd (fun v_80 hv_80 => ?_))
    obtain ⟨rfl, gb_82⟩ := hv_80
    show X _ _ _ _ _ _ _ _ _ [zV (gA (V.1.1 0) ((((V.1.1 0).length : Int)) - 1))] _
    refine x_eqI (b := ende P (V.1.1 0)) (by rw [ende_t c_3, lat_in (by omega) (by omega)]) ?_
    have her : 0 ≤ ende P (V.1.1 0) ∧ ende P (V.1.1 0) < 4 := by rw [ende_t c_3, lat_in (by omega) (by omega)]; exact gA_r hs0.2.2 _
    refine x_istore_n (L' := [(2, zV (ende P (V.1.1 0))), (0, .ref m), (1, zV (bI P))]) ho d_MO_shift_20 (by decide) rfl ?_
    refine x_iconst ho d_MO_shift_21 ?_
    refine x_istore_n (L' := [(3, zV 0), (2, zV (ende P (V.1.1 0))), (0, .ref m), (1, zV (bI P))]) ho d_MO_shift_22 (by decide) rfl ?_
    have loop_23 : ∀ (kk : Nat) (l : Int) (T : Int → Int) (H_83 : Heap) (l_o : At D H_83 m (oO 11 [.ref (m + 1), .ref (m + 2), zV ((V.2.2.2.1.length : Int)), .ref (m + 3), zV V.2.2.1, .ref (m + 4), .ref (m + 5), .ref (m + 6), zV o_fo, .ref (m + 7), zV o_di, zV ((V.2.2.2.2.length : Int)), .ref (m + 8), zV o_az, .ref (m + 9), .ref (m + 10), .ref (m + 11)])) (l_n : isN D H_83 (m + 1) V.1) (l_h : isHm D H_83 (m + 2) V.2.2.2.1) (l_s : isSl D H_83 (m + 3) V.2.2.1 V.2.1) (l_t : At D H_83 (m + 4) (oI D 301 T)) (l_b : At D H_83 (m + 5) (oI D 301 o_b)) (l_p : At D H_83 (m + 6) (oI D 300 o_p)) (l_u : At D H_83 (m + 7) (oI D 300 o_u)) (l_x : isTx D H_83 (m + 8) V.2.2.2.2) (l_c : At D H_83 (m + 9) (oI D 16 o_c)) (l_e : At D H_83 (m + 10) (oI D 16 o_e)) (l_y : At D H_83 (m + 11) (oI D 4 o_y)) (l0 : 0 ≤ l ∧ l ≤ 4) (hP : rpP T (fun i => rot P (V.1.1 i)) l) (hE : ∀ i : Int, 0 ≤ i → i < l → ende P (V.1.1 i) = ende P (V.1.1 0)), (4 - l).toNat < kk → X M ({ frames := 2, cells := 0, slots := 0, locals := 45 } : Room) 6 (rA m (m + 12)) 0 0 (Qof M (rA m (m + 12)) (q_MO_shift D m V P) 0 0) 23 [(3, zV l), (2, zV (ende P (V.1.1 0))), (0, .ref m), (1, zV (bI P))] [] H_83 := by
      intro kk
      induction kk with
      | zero => intro l T H_83 l_o l_n l_h l_s l_t l_b l_p l_u l_x l_c l_e l_y l0 hP hE hk; exact absurd hk (Nat.not_lt_zero _)
      | succ kk ih_23 =>
        intro l T H_83 l_o l_n l_h l_s l_t l_b l_p l_u l_x l_c l_e l_y l0 hP hE hk_23
        refine x_iload_n ho 0 d_MO_shift_23 rfl ?_
        refine x_iconst ho d_MO_shift_24 ?_
        refine x_icmp_ge (tgt := 135) ho d_MO_shift_25 (by decide) (by omega) (by omega) (fun c_25 => ?_) (fun c_25 => ?_)
        ·
          have hR : rpR T (fun i => rot P (V.1.1 i)) := fun i p q => hP i p (by omega)
          have hOK := okR_rot (P := P) n_1
          have hcm : comE P V.1.1 = ende P (V.1.1 0) := comE_t (fun i p q => hE i (by omega) (by omega))
          refine x_aload_n ho 2 d_MO_shift_135 rfl ?_
          refine x_callV (rest := []) ho d_MO_shift_136 yv_MO_isSameRule g_826 g_25 g_825 (c_MO_isSameRule M.2.1 D m ((V.2.2.2.1.length : Int)) V.2.2.1 o_fo o_di ((V.2.2.2.2.length : Int)) o_az V.1 T (fun i => rot P (V.1.1 i)) (by exact hR) (by exact okR_w hOK)) rfl rfl ⟨Nat.le_of_ble_eq_true rfl, Nat.le_of_ble_eq_true rfl⟩ ⟨Nat.le_of_ble_eq_true rfl, Nat.le_of_ble_eq_true rfl⟩ rfl rfl (Nat.le_of_ble_eq_true rfl) l_o rfl rfl ⟨l_o, l_n, l_t⟩ fr_none' (x_rd (fun v_84 hv_84 => ?_))
          obtain rfl := hv_84
          show X _ _ _ _ _ _ _ _ _ [zV (bI (same4 (fun i => rot P (V.1.1 i)) V.1.1))] _
          refine x_if_eqB (tgt := 145) ho d_MO_shift_139 (by decide) (fun c_139 => ?_) (fun c_139 => ?_)
          ·
            refine x_aload_n ho 2 d_MO_shift_145 rfl ?_
            refine x_callV (rest := []) ho d_MO_shift_146 yv_MO_record g_835 g_28 g_834 (c_MO_record M.2.1 D m V.2.2.1 o_fo o_di ((V.2.2.2.2.length : Int)) o_az V.1 V.2.2.2.1 ) rfl rfl ⟨Nat.le_of_ble_eq_true rfl, Nat.le_of_ble_eq_true rfl⟩ ⟨Nat.le_of_ble_eq_true rfl, Nat.le_of_ble_eq_true rfl⟩ rfl rfl (Nat.le_of_ble_eq_true rfl) l_o rfl rfl ⟨l_o, l_n, l_h⟩ (rA_sub (by omega) (by omega)) (fun v_86 H_88 hv_86 f_87 => ?_)
            have k_89 := l_s.kept (f_87.2 _ l_s.lt (rA_no (by omega)))
            have k_90 := l_t.kept (f_87.2 _ l_t.lt (rA_no (by omega)))
            have k_91 := l_b.kept (f_87.2 _ l_b.lt (rA_no (by omega)))
            have k_92 := l_p.kept (f_87.2 _ l_p.lt (rA_no (by omega)))
            have k_93 := l_u.kept (f_87.2 _ l_u.lt (rA_no (by omega)))
            have k_94 := l_x.kept (f_87.2 _ l_x.lt (rA_no (by omega)))
            have k_95 := l_c.kept (f_87.2 _ l_c.lt (rA_no (by omega)))
            have k_96 := l_e.kept (f_87.2 _ l_e.lt (rA_no (by omega)))
            have k_97 := l_y.kept (f_87.2 _ l_y.lt (rA_no (by omega)))
            obtain ⟨rfl, t_o_98, t_n_99, t_h_100⟩ := hv_86
            show X _ _ _ _ _ _ _ _ _ [] _
            refine x_aload_n ho 2 d_MO_shift_149 rfl ?_
            refine x_callV (rest := []) ho d_MO_shift_150 yv_MO_laysRule g_838 g_29 g_837 (c_MO_laysRule M.2.1 D m (((recH V.2.2.2.1 V.1).length : Int)) V.2.2.1 o_fo o_di ((V.2.2.2.2.length : Int)) o_az V.1 T (fun i => rot P (V.1.1 i)) (by exact hR) (by exact hOK)) rfl rfl ⟨Nat.le_of_ble_eq_true rfl, Nat.le_of_ble_eq_true rfl⟩ ⟨Nat.le_of_ble_eq_true rfl, Nat.le_of_ble_eq_true rfl⟩ rfl rfl (Nat.le_of_ble_eq_true rfl) t_o_98 rfl rfl ⟨t_o_98, t_n_99, k_90⟩ (rA_sub (by omega) (by omega)) (fun v_101 H_103 hv_101 f_102 => ?_)
            have k_104 := k_89.kept (f_102.2 _ k_89.lt (rA_no (by omega)))
            have k_105 := k_91.kept (f_102.2 _ k_91.lt (rA_no (by omega)))
            have k_106 := k_92.kept (f_102.2 _ k_92.lt (rA_no (by omega)))
            have k_107 := k_93.kept (f_102.2 _ k_93.lt (rA_no (by omega)))
            have k_108 := k_94.kept (f_102.2 _ k_94.lt (rA_no (by omega)))
            have k_109 := k_95.kept (f_102.2 _ k_95.lt (rA_no (by omega)))
            have k_110 := k_96.kept (f_102.2 _ k_96.lt (rA_no (by omega)))
            have k_111 := k_97.kept (f_102.2 _ k_97.lt (rA_no (by omega)))
            have k_112 := t_h_100.kept (f_102.2 _ t_h_100.lt (rA_no (by omega)))
            obtain ⟨rfl, t_o_113, t_n_114, t_t_115⟩ := hv_101
            show X _ _ _ _ _ _ _ _ _ [] _
            refine x_iload_n ho 1 d_MO_shift_153 rfl ?_
            refine x_iret ho hr d_MO_shift_154 ?_
            have e : m_shift P V = (comE P V.1.1, act (fun i => rot P (V.1.1 i), V.1.2) V) := by unfold m_shift; rw [cif_f (by omega), cif_f (c_139)]
            exact ⟨rI (by rw [e]; exact hcm.symm), by rw [e]; exact isO_mk t_o_113 t_n_114 k_112 k_104 t_t_115 k_105 k_106 k_107 k_108 k_109 k_110 k_111 a_k⟩
          ·
            refine x_bipush (z := (-5)) ho d_MO_shift_142 (by decide) ?_
            refine x_iret ho hr d_MO_shift_144 ?_
            have e : m_shift P V = (-5, V) := by unfold m_shift; rw [cif_f (by omega), cif_t (c_139)]
            exact ⟨by rw [e], by rw [e]; exact isO_mk l_o l_n l_h l_s l_t l_b l_p l_u l_x l_c l_e l_y a_k⟩
        ·
          have h8l : ∀ i : Int, 0 ≤ i → i < l → (((fun i => rot P (V.1.1 i)) i).length : Int) ≤ 8 := fun i p q => (okR_rot n_1 i p (by omega)).2.1
          have hs9 := n_1 l (by omega) (by omega)
          refine x_aload_n ho 2 d_MO_shift_28 rfl ?_
          refine x_iload_n ho 0 d_MO_shift_29 rfl ?_
          refine x_callV (rest := []) ho d_MO_shift_30 yv_MO_size g_829 g_26 g_828 (c_MO_size M.2.1 D m ((V.2.2.2.1.length : Int)) V.2.2.1 o_fo o_di ((V.2.2.2.2.length : Int)) o_az V.1 l (by omega)) rfl rfl ⟨Nat.le_of_ble_eq_true rfl, Nat.le_of_ble_eq_true rfl⟩ ⟨Nat.le_of_ble_eq_true rfl, Nat.le_of_ble_eq_true rfl⟩ rfl rfl (Nat.le_of_ble_eq_true rfl) l_o rfl rfl ⟨l_o, l_n⟩ fr_none' (x_rd (fun v_116 hv_116 => ?_))
          obtain ⟨rfl, sb_118⟩ := hv_116
          show X _ _ _ _ _ _ _ _ _ [zV (((V.1.1 l).length : Int))] _
          refine x_istore (L' := [(4, zV (((V.1.1 l).length : Int))), (3, zV l), (2, zV (ende P (V.1.1 0))), (0, .ref m), (1, zV (bI P))]) ho d_MO_shift_33 (by decide) rfl ?_
          refine x_aload_n ho 3 d_MO_shift_35 rfl ?_
          refine x_iload_n ho 1 d_MO_shift_36 rfl ?_
          refine x_iload_n ho 4 d_MO_shift_37 rfl ?_
          refine x_if_eqB (tgt := 48) ho d_MO_shift_38 (by decide) (fun c_38 => ?_) (fun c_38 => ?_)
          ·
            exact absurd c_3 c_38
          ·
            refine x_iload ho 0 d_MO_shift_41 rfl ?_
            refine x_iconst ho d_MO_shift_43 ?_
            refine x_isub ho d_MO_shift_44 ?_
            refine x_goto (tgt := 49) ho d_MO_shift_45 (by decide) ?_
            refine x_callV (rest := []) ho d_MO_shift_49 yv_MO_sign g_832 g_27 g_831 (c_MO_sign M.2.1 D m ((V.2.2.2.1.length : Int)) V.2.2.1 o_fo o_di ((V.2.2.2.2.length : Int)) o_az V.1 l ((((V.1.1 l).length : Int)) - 1) (by omega) (by omega)) rfl rfl ⟨Nat.le_of_ble_eq_true rfl, Nat.le_of_ble_eq_true rfl⟩ ⟨Nat.le_of_ble_eq_true rfl, Nat.le_of_ble_eq_true rfl⟩ rfl rfl (Nat.le_of_ble_eq_true rfl) l_o rfl rfl ⟨l_o, l_n⟩ fr_none' (x_rd (fun v_119 hv_119 => ?_))
            obtain ⟨rfl, gb_121⟩ := hv_119
            show X _ _ _ _ _ _ _ _ _ [zV (gA (V.1.1 l) ((((V.1.1 l).length : Int)) - 1))] _
            refine x_eqI (b := ende P (V.1.1 l)) (by rw [ende_t c_3, lat_in (by omega) (by omega)]) ?_
            have hlr : 0 ≤ ende P (V.1.1 l) ∧ ende P (V.1.1 l) < 4 := by rw [ende_t c_3, lat_in (by omega) (by omega)]; exact gA_r hs9.2.2 _
            refine x_iload_n ho 2 d_MO_shift_52 rfl ?_
            refine x_icmp_eq (tgt := 59) ho d_MO_shift_53 (by decide) (by omega) (by omega) (fun c_53 => ?_) (fun c_53 => ?_)
            ·
              refine x_aload_n ho 3 d_MO_shift_59 rfl ?_
              refine x_get 5 ho d_MO_shift_60 cl_MO (by decide) g_762 l_o rfl ?_
              refine x_bipush (z := 9) ho d_MO_shift_63 (by decide) ?_
              refine x_iload_n ho 1 d_MO_shift_65 rfl ?_
              refine x_imul ho d_MO_shift_66 ?_
              refine x_iload ho 0 d_MO_shift_67 rfl ?_
              refine x_iast ho d_MO_shift_69 l_t (by omega) (by omega) (by omega) (rA_in (by omega) (by omega)) (fun H_122 p_123 z_124 q_125 => ?_)
              have k_126 := l_o.kept (q_125 _ (by omega))
              have k_127 := l_n.kept (q_125 _ (by omega))
              have k_128 := l_h.kept (q_125 _ (by omega))
              have k_129 := l_s.kept (q_125 _ (by omega))
              have k_130 := l_b.kept (q_125 _ (by omega))
              have k_131 := l_p.kept (q_125 _ (by omega))
              have k_132 := l_u.kept (q_125 _ (by omega))
              have k_133 := l_x.kept (q_125 _ (by omega))
              have k_134 := l_c.kept (q_125 _ (by omega))
              have k_135 := l_e.kept (q_125 _ (by omega))
              have k_136 := l_y.kept (q_125 _ (by omega))
              refine x_iconst ho d_MO_shift_70 ?_
              refine x_istore (L' := [(5, zV 0), (4, zV (((V.1.1 l).length : Int))), (3, zV l), (2, zV (ende P (V.1.1 0))), (0, .ref m), (1, zV (bI P))]) ho d_MO_shift_71 (by decide) rfl ?_
              have loop_73 : ∀ (kk : Nat) (k : Int) (T : Int → Int) (H_137 : Heap) (l_o : At D H_137 m (oO 11 [.ref (m + 1), .ref (m + 2), zV ((V.2.2.2.1.length : Int)), .ref (m + 3), zV V.2.2.1, .ref (m + 4), .ref (m + 5), .ref (m + 6), zV o_fo, .ref (m + 7), zV o_di, zV ((V.2.2.2.2.length : Int)), .ref (m + 8), zV o_az, .ref (m + 9), .ref (m + 10), .ref (m + 11)])) (l_n : isN D H_137 (m + 1) V.1) (l_h : isHm D H_137 (m + 2) V.2.2.2.1) (l_s : isSl D H_137 (m + 3) V.2.2.1 V.2.1) (l_t : At D H_137 (m + 4) (oI D 301 T)) (l_b : At D H_137 (m + 5) (oI D 301 o_b)) (l_p : At D H_137 (m + 6) (oI D 300 o_p)) (l_u : At D H_137 (m + 7) (oI D 300 o_u)) (l_x : isTx D H_137 (m + 8) V.2.2.2.2) (l_c : At D H_137 (m + 9) (oI D 16 o_c)) (l_e : At D H_137 (m + 10) (oI D 16 o_e)) (l_y : At D H_137 (m + 11) (oI D 4 o_y)) (k0 : 0 ≤ k ∧ k ≤ ((V.1.1 l).length : Int)) (hP : rpP T (fun i => rot P (V.1.1 i)) l) (hs : T (9 * l) = ((V.1.1 l).length : Int)) (hK : rpK T (rot P (V.1.1 l)) l k), (((V.1.1 l).length : Int) - k).toNat < kk → X M ({ frames := 2, cells := 0, slots := 0, locals := 45 } : Room) 6 (rA m (m + 12)) 0 0 (Qof M (rA m (m + 12)) (q_MO_shift D m V P) 0 0) 73 [(5, zV k), (4, zV (((V.1.1 l).length : Int))), (3, zV l), (2, zV (ende P (V.1.1 0))), (0, .ref m), (1, zV (bI P))] [] H_137 := by
                intro kk
                induction kk with
                | zero => intro k T H_137 l_o l_n l_h l_s l_t l_b l_p l_u l_x l_c l_e l_y k0 hP hs hK hk; exact absurd hk (Nat.not_lt_zero _)
                | succ kk ih_73 =>
                  intro k T H_137 l_o l_n l_h l_s l_t l_b l_p l_u l_x l_c l_e l_y k0 hP hs hK hk_73
                  refine x_iload ho 0 d_MO_shift_73 rfl ?_
                  refine x_iload ho 1 d_MO_shift_75 rfl ?_
                  refine x_icmp_ge (tgt := 129) ho d_MO_shift_77 (by decide) (by omega) (by omega) (fun c_77 => ?_) (fun c_77 => ?_)
                  ·
                    refine x_iinc (L' := [(3, zV (l + 1)), (5, zV k), (4, zV (((V.1.1 l).length : Int))), (2, zV (ende P (V.1.1 0))), (0, .ref m), (1, zV (bI P))]) ho 2 d_MO_shift_129 rfl rfl (by decide) rfl ?_
                    refine x_goto (tgt := 23) ho d_MO_shift_132 (by decide) ?_
                    refine x_sub (L' := [(3, zV (l + 1)), (2, zV (ende P (V.1.1 0))), (0, .ref m), (1, zV (bI P))]) [0, 3, 4, 5] rfl ?_
                    exact ih_23 (l + 1) T H_137 l_o l_n l_h l_s l_t l_b l_p l_u l_x l_c l_e l_y (by omega) (by exact rpP_end hP (by show T (9 * l) = ((rot P (V.1.1 l)).length : Int); rw [rot_len]; exact hs) hK (by show ((rot P (V.1.1 l)).length : Int) ≤ k; rw [rot_len]; omega)) (by intro i p q; rcases (show i < l ∨ i = l by omega) with z | z; exact hE i p z; rw [z]; exact c_53) (by omega)
                  ·
                    refine x_aload_n ho 4 d_MO_shift_80 rfl ?_
                    refine x_get 5 ho d_MO_shift_81 cl_MO (by decide) g_762 l_o rfl ?_
                    refine x_bipush (z := 9) ho d_MO_shift_84 (by decide) ?_
                    refine x_iload_n ho 2 d_MO_shift_86 rfl ?_
                    refine x_imul ho d_MO_shift_87 ?_
                    refine x_iconst ho d_MO_shift_88 ?_
                    refine x_iadd ho d_MO_shift_89 ?_
                    refine x_iload ho 0 d_MO_shift_90 rfl ?_
                    refine x_iadd ho d_MO_shift_92 ?_
                    refine x_aload_n ho 4 d_MO_shift_93 rfl ?_
                    refine x_iload_n ho 2 d_MO_shift_94 rfl ?_
                    refine x_iload_n ho 5 d_MO_shift_95 rfl ?_
                    refine x_if_eqB (tgt := 112) ho d_MO_shift_96 (by decide) (fun c_96 => ?_) (fun c_96 => ?_)
                    ·
                      exact absurd c_3 c_96
                    ·
                      refine x_iload ho 0 d_MO_shift_99 rfl ?_
                      refine x_iload ho 1 d_MO_shift_101 rfl ?_
                      refine x_iadd ho d_MO_shift_103 ?_
                      refine x_iconst ho d_MO_shift_104 ?_
                      refine x_isub ho d_MO_shift_105 ?_
                      refine x_iload ho 1 d_MO_shift_106 rfl ?_
                      refine x_irem ho d_MO_shift_108 (by omega) (by omega) ?_
                      refine x_goto (tgt := 119) ho d_MO_shift_109 (by decide) ?_
                      refine x_callV (rest := [zV (((9 * l) + 1) + k), .ref (m + 4)]) ho d_MO_shift_119 yv_MO_sign g_832 g_27 g_831 (c_MO_sign M.2.1 D m ((V.2.2.2.1.length : Int)) V.2.2.1 o_fo o_di ((V.2.2.2.2.length : Int)) o_az V.1 l (((k + (((V.1.1 l).length : Int))) - 1) % (((V.1.1 l).length : Int))) (by omega) (by exact ⟨Int.emod_nonneg _ (by omega), Int.emod_lt_of_pos _ (by omega)⟩)) rfl rfl ⟨Nat.le_of_ble_eq_true rfl, Nat.le_of_ble_eq_true rfl⟩ ⟨Nat.le_of_ble_eq_true rfl, Nat.le_of_ble_eq_true rfl⟩ rfl rfl (Nat.le_of_ble_eq_true rfl) l_o rfl rfl ⟨l_o, l_n⟩ fr_none' (x_rd (fun v_138 hv_138 => ?_))
                      obtain ⟨rfl, gb_140⟩ := hv_138
                      show X _ _ _ _ _ _ _ _ _ [zV (gA (V.1.1 l) (((k + (((V.1.1 l).length : Int))) - 1) % (((V.1.1 l).length : Int)))), zV (((9 * l) + 1) + k), .ref (m + 4)] _
                      refine x_eqI (b := gA (rot P (V.1.1 l)) k) (by rw [rot_t c_3, rot2_g (by omega) (by omega), md2 (by omega) (by omega)]; split <;> rfl) ?_
                      refine x_iast ho d_MO_shift_122 l_t (by omega) (by omega) (by omega) (rA_in (by omega) (by omega)) (fun H_141 p_142 z_143 q_144 => ?_)
                      have k_145 := l_o.kept (q_144 _ (by omega))
                      have k_146 := l_n.kept (q_144 _ (by omega))
                      have k_147 := l_h.kept (q_144 _ (by omega))
                      have k_148 := l_s.kept (q_144 _ (by omega))
                      have k_149 := l_b.kept (q_144 _ (by omega))
                      have k_150 := l_p.kept (q_144 _ (by omega))
                      have k_151 := l_u.kept (q_144 _ (by omega))
                      have k_152 := l_x.kept (q_144 _ (by omega))
                      have k_153 := l_c.kept (q_144 _ (by omega))
                      have k_154 := l_e.kept (q_144 _ (by omega))
                      have k_155 := l_y.kept (q_144 _ (by omega))
                      refine x_iinc (L' := [(5, zV (k + 1)), (4, zV (((V.1.1 l).length : Int))), (3, zV l), (2, zV (ende P (V.1.1 0))), (0, .ref m), (1, zV (bI P))]) ho 0 d_MO_shift_123 rfl rfl (by decide) rfl ?_
                      refine x_goto (tgt := 73) ho d_MO_shift_126 (by decide) ?_
                      exact ih_73 (k + 1) (zU T (9 * l + 1 + k) (gA (rot P (V.1.1 l)) k)) H_141 k_145 k_146 k_147 k_148 p_142 k_149 k_150 k_151 k_152 k_153 k_154 k_155 (by omega) (by exact rpP_z hP h8l (by omega)) (by rw [zU_n _ _ (by omega)]; exact hs) (by exact rpK_put hK rfl rfl) (by omega)
              exact loop_73 _ 0 (zU T (9 * l) (((V.1.1 l).length : Int))) H_122 k_126 k_127 k_128 k_129 p_123 k_130 k_131 k_132 k_133 k_134 k_135 k_136 (by omega) (by exact rpP_z hP h8l (by omega)) (by exact zU_s _ _ _) (by exact rpK_0) (Nat.lt_succ_self _)
            ·
              refine x_bipush (z := (-4)) ho d_MO_shift_56 (by decide) ?_
              refine x_iret ho hr d_MO_shift_58 ?_
              have hl1 : 1 ≤ l := by rcases (show 1 ≤ l ∨ l = 0 by omega) with z | z; exact z; subst z; exact absurd rfl c_53
              have e : m_shift P V = (-4, V) := by unfold m_shift; rw [cif_t (comE_f hl1 (by omega) c_53)]
              exact ⟨by rw [e], by rw [e]; exact isO_mk l_o l_n l_h l_s l_t l_b l_p l_u l_x l_c l_e l_y a_k⟩
    exact loop_23 _ 0 o_t H a_o a_n a_h a_s a_t a_b a_p a_u a_x a_c a_e a_y (by omega) (by exact rpP_0) (by exact fun i p q => by omega) (Nat.lt_succ_self _)
