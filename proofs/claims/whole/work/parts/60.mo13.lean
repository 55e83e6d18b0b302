def q_MO_readRule (D : GG) (m : Nat) (V : WV) : Option Value → Heap → Prop := fun v0 H => v0 = some (zV ((m_readRule V).1)) ∧ isO D H m ((m_readRule V).2)
theorem yv_MO_readRule : Yv y_MO_readRule b_MO_readRule 2 (Option.some FieldType.int) 0 := ⟨g_812, g_65, by decide, by decide +kernel⟩
set_option maxHeartbeats 4000000 in
set_option maxRecDepth 100000 in
theorem c_MO_readRule (l0 : Launch) (D : GG) (m : Nat) (V : WV)  : Ct l0 D y_MO_readRule b_MO_readRule 2 (Option.some FieldType.int) ({ frames := 3, cells := 0, slots := 0, locals := 66 } : Room) [.ref m] (fun H => isO D H m V) (rA m (m + 12)) 0 0 (q_MO_readRule D m V) := by
  refine Ct.of (L := [(0, .ref m)]) (by decide) (Nat.le_of_ble_eq_true rfl) rfl (fun M H ho hr hnm hH hpre => ?_)
  have hW := hpre
  obtain ⟨o_fo, o_di, o_az, o_t, o_b, o_p, o_u, o_c, o_e, o_y, a_o, a_n, a_h, a_s, a_t, a_b, a_p, a_u, a_x, a_c, a_e, a_y, a_k⟩ := id hW
  have n_o := a_n.ok
  have n_1 := n_o.1
  have n_2 := n_o.2.1
  have n_3 := n_o.2.2
  have h_b := a_h.b
  refine x_aload_n ho 0 d_MO_readRule_0 rfl ?_
  refine x_callV (rest := []) ho d_MO_readRule_1 yv_MO_takesRule g_814 g_22 g_813 (c_MO_takesRule M.2.1 D m ((V.2.2.2.1.length : Int)) V.2.2.1 o_fo o_di ((V.2.2.2.2.length : Int)) o_az V.1 o_t ) rfl rfl ⟨Nat.le_of_ble_eq_true rfl, Nat.le_of_ble_eq_true rfl⟩ ⟨Nat.le_of_ble_eq_true rfl, Nat.le_of_ble_eq_true rfl⟩ rfl rfl (Nat.le_of_ble_eq_true rfl) a_o rfl rfl ⟨a_o, a_n, a_t⟩ (rA_sub (by omega) (by omega)) (fun v_1 H_3 hv_1 f_2 => ?_)
  have k_4 := a_h.kept (f_2.2 _ a_h.lt (rA_no (by omega)))
  have k_5 := a_s.kept (f_2.2 _ a_s.lt (rA_no (by omega)))
  have k_6 := a_b.kept (f_2.2 _ a_b.lt (rA_no (by omega)))
  have k_7 := a_p.kept (f_2.2 _ a_p.lt (rA_no (by omega)))
  have k_8 := a_u.kept (f_2.2 _ a_u.lt (rA_no (by omega)))
  have k_9 := a_x.kept (f_2.2 _ a_x.lt (rA_no (by omega)))
  have k_10 := a_c.kept (f_2.2 _ a_c.lt (rA_no (by omega)))
  have k_11 := a_e.kept (f_2.2 _ a_e.lt (rA_no (by omega)))
  have k_12 := a_y.kept (f_2.2 _ a_y.lt (rA_no (by omega)))
  obtain ⟨t1_13, rfl, ht_14, t_o_15, t_n_16, t_t_17⟩ := hv_1
  show X _ _ _ _ _ _ _ _ _ [] _
  refine x_aload_n ho 0 d_MO_readRule_4 rfl ?_
  refine x_callV (rest := []) ho d_MO_readRule_5 yv_MO_partsOfText g_817 g_23 g_816 (c_MO_partsOfText M.2.1 D m ((V.2.2.2.1.length : Int)) V.2.2.1 o_fo o_di o_az V.2.2.2.2 t1_13 V.1.1 (by exact ht_14) (by exact n_1)) rfl rfl ⟨Nat.le_of_ble_eq_true rfl, Nat.le_of_ble_eq_true rfl⟩ ⟨Nat.le_of_ble_eq_true rfl, Nat.le_of_ble_eq_true rfl⟩ rfl rfl (Nat.le_of_ble_eq_true rfl) t_o_15 rfl rfl ⟨t_o_15, k_9, t_t_17⟩ (fun z hz => by rcases hz with ⟨z1, z2⟩ | ⟨z1, z2⟩ <;> exact rA_in (by omega) (by omega)) (fun v_18 H_20 hv_18 f_19 => ?_)
  have k_21 := k_4.kept (f_19.2 _ k_4.lt (fun z => by rcases z with ⟨z1, z2⟩ | ⟨z1, z2⟩ <;> omega))
  have k_22 := k_5.kept (f_19.2 _ k_5.lt (fun z => by rcases z with ⟨z1, z2⟩ | ⟨z1, z2⟩ <;> omega))
  have k_23 := k_6.kept (f_19.2 _ k_6.lt (fun z => by rcases z with ⟨z1, z2⟩ | ⟨z1, z2⟩ <;> omega))
  have k_24 := k_7.kept (f_19.2 _ k_7.lt (fun z => by rcases z with ⟨z1, z2⟩ | ⟨z1, z2⟩ <;> omega))
  have k_25 := k_8.kept (f_19.2 _ k_8.lt (fun z => by rcases z with ⟨z1, z2⟩ | ⟨z1, z2⟩ <;> omega))
  have k_26 := k_10.kept (f_19.2 _ k_10.lt (fun z => by rcases z with ⟨z1, z2⟩ | ⟨z1, z2⟩ <;> omega))
  have k_27 := k_11.kept (f_19.2 _ k_11.lt (fun z => by rcases z with ⟨z1, z2⟩ | ⟨z1, z2⟩ <;> omega))
  have k_28 := k_12.kept (f_19.2 _ k_12.lt (fun z => by rcases z with ⟨z1, z2⟩ | ⟨z1, z2⟩ <;> omega))
  have k_29 := t_n_16.kept (f_19.2 _ t_n_16.lt (fun z => by rcases z with ⟨z1, z2⟩ | ⟨z1, z2⟩ <;> omega))
  rcases hv_18 with ⟨t1_30, rfl, hp_31, ht_32, hc_33, pb_34, t_o_35, t_x_36, t_t_37⟩ | ⟨t1_38, rfl, hp_39, t_o_40, t_x_41, t_t_42⟩
  ·
    show X _ _ _ _ _ _ _ _ _ [zV (1 + cn V.2.2.2.2 59)] _
    refine x_istore_n (L' := [(1, zV (1 + cn V.2.2.2.2 59)), (0, .ref m)]) ho d_MO_readRule_8 (by decide) rfl ?_
    have hpb := pb_34
    have hpp := hp_31
    have htt := ht_32
    have hcc := hc_33
    refine x_iload_n ho 0 d_MO_readRule_9 rfl ?_
    refine x_bipush (z := (-5)) ho d_MO_readRule_10 (by decide) ?_
    refine x_icmp_ne (tgt := 23) ho d_MO_readRule_12 (by decide) (by omega) (by omega) (fun c_12 => ?_) (fun c_12 => ?_)
    ·
      refine x_aload_n ho 1 d_MO_readRule_23 rfl ?_
      refine x_callV (rest := []) ho d_MO_readRule_24 yv_MO_isSameRule g_826 g_25 g_825 (c_MO_isSameRule M.2.1 D m ((V.2.2.2.1.length : Int)) V.2.2.1 o_fo o_di ((V.2.2.2.2.length : Int)) ((V.2.2.2.2.length : Int)) V.1 t1_30 ((aut V.2.2.2.2 0 (-1) V.1.1 0).2) (by exact htt) (by exact okR_w hcc)) rfl rfl ⟨Nat.le_of_ble_eq_true rfl, Nat.le_of_ble_eq_true rfl⟩ ⟨Nat.le_of_ble_eq_true rfl, Nat.le_of_ble_eq_true rfl⟩ rfl rfl (Nat.le_of_ble_eq_true rfl) t_o_35 rfl rfl ⟨t_o_35, k_29, t_t_37⟩ fr_none' (x_rd (fun v_43 hv_43 => ?_))
      obtain rfl := hv_43
      show X _ _ _ _ _ _ _ _ _ [zV (bI (same4 ((aut V.2.2.2.2 0 (-1) V.1.1 0).2) V.1.1))] _
      refine x_if_eqB (tgt := 33) ho d_MO_readRule_27 (by decide) (fun c_27 => ?_) (fun c_27 => ?_)
      ·
        refine x_aload_n ho 1 d_MO_readRule_33 rfl ?_
        refine x_callV (rest := []) ho d_MO_readRule_34 yv_MO_record g_835 g_28 g_834 (c_MO_record M.2.1 D m V.2.2.1 o_fo o_di ((V.2.2.2.2.length : Int)) ((V.2.2.2.2.length : Int)) V.1 V.2.2.2.1 ) rfl rfl ⟨Nat.le_of_ble_eq_true rfl, Nat.le_of_ble_eq_true rfl⟩ ⟨Nat.le_of_ble_eq_true rfl, Nat.le_of_ble_eq_true rfl⟩ rfl rfl (Nat.le_of_ble_eq_true rfl) t_o_35 rfl rfl ⟨t_o_35, k_29, k_21⟩ (rA_sub (by omega) (by omega)) (fun v_45 H_47 hv_45 f_46 => ?_)
        have k_48 := k_22.kept (f_46.2 _ k_22.lt (rA_no (by omega)))
        have k_49 := k_23.kept (f_46.2 _ k_23.lt (rA_no (by omega)))
        have k_50 := k_24.kept (f_46.2 _ k_24.lt (rA_no (by omega)))
        have k_51 := k_25.kept (f_46.2 _ k_25.lt (rA_no (by omega)))
        have k_52 := k_26.kept (f_46.2 _ k_26.lt (rA_no (by omega)))
        have k_53 := k_27.kept (f_46.2 _ k_27.lt (rA_no (by omega)))
        have k_54 := k_28.kept (f_46.2 _ k_28.lt (rA_no (by omega)))
        have k_55 := t_x_36.kept (f_46.2 _ t_x_36.lt (rA_no (by omega)))
        have k_56 := t_t_37.kept (f_46.2 _ t_t_37.lt (rA_no (by omega)))
        obtain ⟨rfl, t_o_57, t_n_58, t_h_59⟩ := hv_45
        show X _ _ _ _ _ _ _ _ _ [] _
        refine x_aload_n ho 1 d_MO_readRule_37 rfl ?_
        refine x_callV (rest := []) ho d_MO_readRule_38 yv_MO_laysRule g_838 g_29 g_837 (c_MO_laysRule M.2.1 D m (((recH V.2.2.2.1 V.1).length : Int)) V.2.2.1 o_fo o_di ((V.2.2.2.2.length : Int)) ((V.2.2.2.2.length : Int)) V.1 t1_30 ((aut V.2.2.2.2 0 (-1) V.1.1 0).2) (by exact htt) (by exact hcc)) rfl rfl ⟨Nat.le_of_ble_eq_true rfl, Nat.le_of_ble_eq_true rfl⟩ ⟨Nat.le_of_ble_eq_true rfl, Nat.le_of_ble_eq_true rfl⟩ rfl rfl (Nat.le_of_ble_eq_true rfl) t_o_57 rfl rfl ⟨t_o_57, t_n_58, k_56⟩ (rA_sub (by omega) (by omega)) (fun v_60 H_62 hv_60 f_61 => ?_)
        have k_63 := k_48.kept (f_61.2 _ k_48.lt (rA_no (by omega)))
        have k_64 := k_49.kept (f_61.2 _ k_49.lt (rA_no (by omega)))
        have k_65 := k_50.kept (f_61.2 _ k_50.lt (rA_no (by omega)))
        have k_66 := k_51.kept (f_61.2 _ k_51.lt (rA_no (by omega)))
        have k_67 := k_52.kept (f_61.2 _ k_52.lt (rA_no (by omega)))
        have k_68 := k_53.kept (f_61.2 _ k_53.lt (rA_no (by omega)))
        have k_69 := k_54.kept (f_61.2 _ k_54.lt (rA_no (by omega)))
        have k_70 := k_55.kept (f_61.2 _ k_55.lt (rA_no (by omega)))
        have k_71 := t_h_59.kept (f_61.2 _ t_h_59.lt (rA_no (by omega)))
        obtain ⟨rfl, t_o_72, t_n_73, t_t_74⟩ := hv_60
        show X _ _ _ _ _ _ _ _ _ [] _
        refine x_iload_n ho 0 d_MO_readRule_41 rfl ?_
        refine x_iret ho hr d_MO_readRule_42 ?_
        have e : m_readRule V = (1 + cn V.2.2.2.2 59, act ((aut V.2.2.2.2 0 (-1) V.1.1 0).2, V.1.2) V) := by unfold m_readRule; rw [cif_f (fun q => q hpp), cif_f (c_27)]
        exact ⟨by rw [e], by rw [e]; exact isO_mk t_o_72 t_n_73 k_71 k_63 t_t_74 k_64 k_65 k_66 k_70 k_67 k_68 k_69 a_k⟩
      ·
        refine x_bipush (z := (-5)) ho d_MO_readRule_30 (by decide) ?_
        refine x_iret ho hr d_MO_readRule_32 ?_
        have e : m_readRule V = (-5, V) := by unfold m_readRule; rw [cif_f (fun q => q hpp), cif_t (c_27)]
        exact ⟨by rw [e], by rw [e]; exact isO_mk t_o_35 k_29 k_21 k_22 t_t_37 k_23 k_24 k_25 t_x_36 k_26 k_27 k_28 a_k⟩
    ·
      omega
  ·
    show X _ _ _ _ _ _ _ _ _ [zV (-5)] _
    refine x_istore_n (L' := [(1, zV (-5)), (0, .ref m)]) ho d_MO_readRule_8 (by decide) rfl ?_
    have hpp := hp_39
    refine x_iload_n ho 0 d_MO_readRule_9 rfl ?_
    refine x_bipush (z := (-5)) ho d_MO_readRule_10 (by decide) ?_
    refine x_icmp_ne (tgt := 23) ho d_MO_readRule_12 (by decide) (by omega) (by omega) (fun c => absurd c (by decide)) (fun _ => ?_)
    refine x_bipush (z := (-100)) ho d_MO_readRule_15 (by decide) ?_
    refine x_aload_n ho 1 d_MO_readRule_17 rfl ?_
    refine x_get 13 ho d_MO_readRule_18 cl_MO (by decide) g_770 t_o_40 rfl ?_
    refine x_isub ho d_MO_readRule_21 ?_
    refine x_iret ho hr d_MO_readRule_22 ?_
    have e : m_readRule V = (-100 - (aut V.2.2.2.2 0 (-1) V.1.1 0).1, V) := by unfold m_readRule; rw [cif_t (hpp)]
    exact ⟨by rw [e], by rw [e]; exact isO_mk t_o_40 k_29 k_21 k_22 t_t_42 k_23 k_24 k_25 t_x_41 k_26 k_27 k_28 a_k⟩
def q_MO_init (D : GG) (m : Nat) : Option Value → Heap → Prop := fun v0 H => v0 = none ∧ isO D H m wv0
theorem yv_MO_init : Yv y_MO_init b_MO_init 2 (Option.none : Option FieldType) 0 := ⟨g_755, g_65, by decide, by decide +kernel⟩
set_option maxHeartbeats 4000000 in
set_option maxRecDepth 100000 in
theorem c_MO_init (l0 : Launch) (D : GG) (m : Nat)  : Ct l0 D y_MO_init b_MO_init 2 (Option.none : Option FieldType) ({ frames := 1, cells := 11, slots := 3446, locals := 20 } : Room) [.ref m] (fun H => At D H m (oO 11 [.null, .null, zV 0, .null, zV 0, .null, .null, .null, zV 0, .null, zV 0, zV 0, .null, zV 0, .null, .null, .null]) ∧ H.size = m + 1) (rA m (m + 12)) 11 3446 (q_MO_init D m) := by
  refine Ct.of (L := [(0, .ref m)]) (by decide) (Nat.le_of_ble_eq_true rfl) rfl (fun M H ho hr hnm hH hpre => ?_)
  obtain ⟨t_o, t_z⟩ := hpre
  refine x_aload_n ho 0 d_MO_init_0 rfl ?_
  refine x_oinit ho d_MO_init_1 g_756 (Nat.le_of_ble_eq_true rfl) (Nat.le_of_ble_eq_true rfl) ?_
  refine x_aload_n ho 0 d_MO_init_4 rfl ?_
  refine x_sipush (z := 358) ho d_MO_init_5 (by decide) ?_
  refine x_newI (n := 358) (z := 358) ho d_MO_init_8 rfl (by decide) (Nat.le_of_ble_eq_true rfl) (Nat.le_of_ble_eq_true rfl) t_z (fun H_1 p_2 z_3 q_4 => ?_)
  have k_5 := t_o.kept (q_4 _ (by have := t_o.lt; omega))
  have s_6 : H_1.size = m + 2 := z_3
  clear t_o z_3 q_4 t_z
  show X _ _ _ _ 1 358 _ _ _ [.ref (m + 1), .ref m] _
  refine x_putF 0 ho hnm d_MO_init_10 cl_MO (by decide) g_757 k_5 rfl rfl rfl rfl (Nat.le_of_ble_eq_true rfl) (rA_in (by omega) (by omega)) (fun H_7 p_8 z_9 q_10 => ?_)
  have k_11 := p_2.kept (q_10 _ (by omega))
  have s_12 : H_7.size = m + 2 := z_9.trans s_6
  clear k_5 p_2 z_9 q_10 s_6
  refine x_aload_n ho 0 d_MO_init_13 rfl ?_
  refine x_sipush (z := 1432) ho d_MO_init_14 (by decide) ?_
  refine x_newI (n := 1432) (z := 1432) ho d_MO_init_17 rfl (by decide) (Nat.le_of_ble_eq_true rfl) (Nat.le_of_ble_eq_true rfl) s_12 (fun H_13 p_14 z_15 q_16 => ?_)
  have k_17 := k_11.kept (q_16 _ (by have := k_11.lt; omega))
  have k_18 := p_8.kept (q_16 _ (by have := p_8.lt; omega))
  have s_19 : H_13.size = m + 3 := z_15
  clear k_11 p_8 z_15 q_16 s_12
  show X _ _ _ _ 2 1790 _ _ _ [.ref (m + 2), .ref m] _
  refine x_putF 1 ho hnm d_MO_init_19 cl_MO (by decide) g_758 k_18 rfl rfl rfl rfl (Nat.le_of_ble_eq_true rfl) (rA_in (by omega) (by omega)) (fun H_20 p_21 z_22 q_23 => ?_)
  have k_24 := k_17.kept (q_23 _ (by omega))
  have k_25 := p_14.kept (q_23 _ (by omega))
  have s_26 : H_20.size = m + 3 := z_22.trans s_19
  clear k_17 k_18 p_14 z_22 q_23 s_19
  refine x_aload_n ho 0 d_MO_init_22 rfl ?_
  refine x_sipush (z := 358) ho d_MO_init_23 (by decide) ?_
  refine x_newI (n := 358) (z := 358) ho d_MO_init_26 rfl (by decide) (Nat.le_of_ble_eq_true rfl) (Nat.le_of_ble_eq_true rfl) s_26 (fun H_27 p_28 z_29 q_30 => ?_)
  have k_31 := k_24.kept (q_30 _ (by have := k_24.lt; omega))
  have k_32 := k_25.kept (q_30 _ (by have := k_25.lt; omega))
  have k_33 := p_21.kept (q_30 _ (by have := p_21.lt; omega))
  have s_34 : H_27.size = m + 4 := z_29
  clear k_24 k_25 p_21 z_29 q_30 s_26
  show X _ _ _ _ 3 2148 _ _ _ [.ref (m + 3), .ref m] _
  refine x_putF 3 ho hnm d_MO_init_28 cl_MO (by decide) g_760 k_33 rfl rfl rfl rfl (Nat.le_of_ble_eq_true rfl) (rA_in (by omega) (by omega)) (fun H_35 p_36 z_37 q_38 => ?_)
  have k_39 := k_31.kept (q_38 _ (by omega))
  have k_40 := k_32.kept (q_38 _ (by omega))
  have k_41 := p_28.kept (q_38 _ (by omega))
  have s_42 : H_35.size = m + 4 := z_37.trans s_34
  clear k_31 k_32 k_33 p_28 z_37 q_38 s_34
  refine x_aload_n ho 0 d_MO_init_31 rfl ?_
  refine x_sipush (z := 301) ho d_MO_init_32 (by decide) ?_
  refine x_newI (n := 301) (z := 301) ho d_MO_init_35 rfl (by decide) (Nat.le_of_ble_eq_true rfl) (Nat.le_of_ble_eq_true rfl) s_42 (fun H_43 p_44 z_45 q_46 => ?_)
  have k_47 := k_39.kept (q_46 _ (by have := k_39.lt; omega))
  have k_48 := k_40.kept (q_46 _ (by have := k_40.lt; omega))
  have k_49 := k_41.kept (q_46 _ (by have := k_41.lt; omega))
  have k_50 := p_36.kept (q_46 _ (by have := p_36.lt; omega))
  have s_51 : H_43.size = m + 5 := z_45
  clear k_39 k_40 k_41 p_36 z_45 q_46 s_42
  show X _ _ _ _ 4 2449 _ _ _ [.ref (m + 4), .ref m] _
  refine x_putF 5 ho hnm d_MO_init_37 cl_MO (by decide) g_762 k_50 rfl rfl rfl rfl (Nat.le_of_ble_eq_true rfl) (rA_in (by omega) (by omega)) (fun H_52 p_53 z_54 q_55 => ?_)
  have k_56 := k_47.kept (q_55 _ (by omega))
  have k_57 := k_48.kept (q_55 _ (by omega))
  have k_58 := k_49.kept (q_55 _ (by omega))
  have k_59 := p_44.kept (q_55 _ (by omega))
  have s_60 : H_52.size = m + 5 := z_54.trans s_51
  clear k_47 k_48 k_49 k_50 p_44 z_54 q_55 s_51
  refine x_aload_n ho 0 d_MO_init_40 rfl ?_
  refine x_sipush (z := 301) ho d_MO_init_41 (by decide) ?_
  refine x_newI (n := 301) (z := 301) ho d_MO_init_44 rfl (by decide) (Nat.le_of_ble_eq_true rfl) (Nat.le_of_ble_eq_true rfl) s_60 (fun H_61 p_62 z_63 q_64 => ?_)
  have k_65 := k_56.kept (q_64 _ (by have := k_56.lt; omega))
  have k_66 := k_57.kept (q_64 _ (by have := k_57.lt; omega))
  have k_67 := k_58.kept (q_64 _ (by have := k_58.lt; omega))
  have k_68 := k_59.kept (q_64 _ (by have := k_59.lt; omega))
  have k_69 := p_53.kept (q_64 _ (by have := p_53.lt; omega))
  have s_70 : H_61.size = m + 6 := z_63
  clear k_56 k_57 k_58 k_59 p_53 z_63 q_64 s_60
  show X _ _ _ _ 5 2750 _ _ _ [.ref (m + 5), .ref m] _
  refine x_putF 6 ho hnm d_MO_init_46 cl_MO (by decide) g_763 k_69 rfl rfl rfl rfl (Nat.le_of_ble_eq_true rfl) (rA_in (by omega) (by omega)) (fun H_71 p_72 z_73 q_74 => ?_)
  have k_75 := k_65.kept (q_74 _ (by omega))
  have k_76 := k_66.kept (q_74 _ (by omega))
  have k_77 := k_67.kept (q_74 _ (by omega))
  have k_78 := k_68.kept (q_74 _ (by omega))
  have k_79 := p_62.kept (q_74 _ (by omega))
  have s_80 : H_71.size = m + 6 := z_73.trans s_70
  clear k_65 k_66 k_67 k_68 k_69 p_62 z_73 q_74 s_70
  refine x_aload_n ho 0 d_MO_init_49 rfl ?_
  refine x_sipush (z := 300) ho d_MO_init_50 (by decide) ?_
  refine x_newI (n := 300) (z := 300) ho d_MO_init_53 rfl (by decide) (Nat.le_of_ble_eq_true rfl) (Nat.le_of_ble_eq_true rfl) s_80 (fun H_81 p_82 z_83 q_84 => ?_)
  have k_85 := k_75.kept (q_84 _ (by have := k_75.lt; omega))
  have k_86 := k_76.kept (q_84 _ (by have := k_76.lt; omega))
  have k_87 := k_77.kept (q_84 _ (by have := k_77.lt; omega))
  have k_88 := k_78.kept (q_84 _ (by have := k_78.lt; omega))
  have k_89 := k_79.kept (q_84 _ (by have := k_79.lt; omega))
  have k_90 := p_72.kept (q_84 _ (by have := p_72.lt; omega))
  have s_91 : H_81.size = m + 7 := z_83
  clear k_75 k_76 k_77 k_78 k_79 p_72 z_83 q_84 s_80
  show X _ _ _ _ 6 3050 _ _ _ [.ref (m + 6), .ref m] _
  refine x_putF 7 ho hnm d_MO_init_55 cl_MO (by decide) g_764 k_90 rfl rfl rfl rfl (Nat.le_of_ble_eq_true rfl) (rA_in (by omega) (by omega)) (fun H_92 p_93 z_94 q_95 => ?_)
  have k_96 := k_85.kept (q_95 _ (by omega))
  have k_97 := k_86.kept (q_95 _ (by omega))
  have k_98 := k_87.kept (q_95 _ (by omega))
  have k_99 := k_88.kept (q_95 _ (by omega))
  have k_100 := k_89.kept (q_95 _ (by omega))
  have k_101 := p_82.kept (q_95 _ (by omega))
  have s_102 : H_92.size = m + 7 := z_94.trans s_91
  clear k_85 k_86 k_87 k_88 k_89 k_90 p_82 z_94 q_95 s_91
  refine x_aload_n ho 0 d_MO_init_58 rfl ?_
  refine x_sipush (z := 300) ho d_MO_init_59 (by decide) ?_
  refine x_newI (n := 300) (z := 300) ho d_MO_init_62 rfl (by decide) (Nat.le_of_ble_eq_true rfl) (Nat.le_of_ble_eq_true rfl) s_102 (fun H_103 p_104 z_105 q_106 => ?_)
  have k_107 := k_96.kept (q_106 _ (by have := k_96.lt; omega))
  have k_108 := k_97.kept (q_106 _ (by have := k_97.lt; omega))
  have k_109 := k_98.kept (q_106 _ (by have := k_98.lt; omega))
  have k_110 := k_99.kept (q_106 _ (by have := k_99.lt; omega))
  have k_111 := k_100.kept (q_106 _ (by have := k_100.lt; omega))
  have k_112 := k_101.kept (q_106 _ (by have := k_101.lt; omega))
  have k_113 := p_93.kept (q_106 _ (by have := p_93.lt; omega))
  have s_114 : H_103.size = m + 8 := z_105
  clear k_96 k_97 k_98 k_99 k_100 k_101 p_93 z_105 q_106 s_102
  show X _ _ _ _ 7 3350 _ _ _ [.ref (m + 7), .ref m] _
  refine x_putF 9 ho hnm d_MO_init_64 cl_MO (by decide) g_766 k_113 rfl rfl rfl rfl (Nat.le_of_ble_eq_true rfl) (rA_in (by omega) (by omega)) (fun H_115 p_116 z_117 q_118 => ?_)
  have k_119 := k_107.kept (q_118 _ (by omega))
  have k_120 := k_108.kept (q_118 _ (by omega))
  have k_121 := k_109.kept (q_118 _ (by omega))
  have k_122 := k_110.kept (q_118 _ (by omega))
  have k_123 := k_111.kept (q_118 _ (by omega))
  have k_124 := k_112.kept (q_118 _ (by omega))
  have k_125 := p_104.kept (q_118 _ (by omega))
  have s_126 : H_115.size = m + 8 := z_117.trans s_114
  clear k_107 k_108 k_109 k_110 k_111 k_112 k_113 p_104 z_117 q_118 s_114
  refine x_aload_n ho 0 d_MO_init_67 rfl ?_
  refine x_bipush (z := 60) ho d_MO_init_68 (by decide) ?_
  refine x_newC (n := 60) (z := 60) ho d_MO_init_70 rfl (by decide) (Nat.le_of_ble_eq_true rfl) (Nat.le_of_ble_eq_true rfl) s_126 (fun H_127 p_128 z_129 q_130 => ?_)
  have k_131 := k_119.kept (q_130 _ (by have := k_119.lt; omega))
  have k_132 := k_120.kept (q_130 _ (by have := k_120.lt; omega))
  have k_133 := k_121.kept (q_130 _ (by have := k_121.lt; omega))
  have k_134 := k_122.kept (q_130 _ (by have := k_122.lt; omega))
  have k_135 := k_123.kept (q_130 _ (by have := k_123.lt; omega))
  have k_136 := k_124.kept (q_130 _ (by have := k_124.lt; omega))
  have k_137 := k_125.kept (q_130 _ (by have := k_125.lt; omega))
  have k_138 := p_116.kept (q_130 _ (by have := p_116.lt; omega))
  have s_139 : H_127.size = m + 9 := z_129
  clear k_119 k_120 k_121 k_122 k_123 k_124 k_125 p_116 z_129 q_130 s_126
  show X _ _ _ _ 8 3410 _ _ _ [.ref (m + 8), .ref m] _
  refine x_putF 12 ho hnm d_MO_init_72 cl_MO (by decide) g_769 k_138 rfl rfl rfl rfl (Nat.le_of_ble_eq_true rfl) (rA_in (by omega) (by omega)) (fun H_140 p_141 z_142 q_143 => ?_)
  have k_144 := k_131.kept (q_143 _ (by omega))
  have k_145 := k_132.kept (q_143 _ (by omega))
  have k_146 := k_133.kept (q_143 _ (by omega))
  have k_147 := k_134.kept (q_143 _ (by omega))
  have k_148 := k_135.kept (q_143 _ (by omega))
  have k_149 := k_136.kept (q_143 _ (by omega))
  have k_150 := k_137.kept (q_143 _ (by omega))
  have k_151 := p_128.kept (q_143 _ (by omega))
  have s_152 : H_140.size = m + 9 := z_142.trans s_139
  clear k_131 k_132 k_133 k_134 k_135 k_136 k_137 k_138 p_128 z_142 q_143 s_139
  refine x_aload_n ho 0 d_MO_init_75 rfl ?_
  refine x_bipush (z := 16) ho d_MO_init_76 (by decide) ?_
  refine x_newI (n := 16) (z := 16) ho d_MO_init_78 rfl (by decide) (Nat.le_of_ble_eq_true rfl) (Nat.le_of_ble_eq_true rfl) s_152 (fun H_153 p_154 z_155 q_156 => ?_)
  have k_157 := k_144.kept (q_156 _ (by have := k_144.lt; omega))
  have k_158 := k_145.kept (q_156 _ (by have := k_145.lt; omega))
  have k_159 := k_146.kept (q_156 _ (by have := k_146.lt; omega))
  have k_160 := k_147.kept (q_156 _ (by have := k_147.lt; omega))
  have k_161 := k_148.kept (q_156 _ (by have := k_148.lt; omega))
  have k_162 := k_149.kept (q_156 _ (by have := k_149.lt; omega))
  have k_163 := k_150.kept (q_156 _ (by have := k_150.lt; omega))
  have k_164 := k_151.kept (q_156 _ (by have := k_151.lt; omega))
  have k_165 := p_141.kept (q_156 _ (by have := p_141.lt; omega))
  have s_166 : H_153.size = m + 10 := z_155
  clear k_144 k_145 k_146 k_147 k_148 k_149 k_150 k_151 p_141 z_155 q_156 s_152
  show X _ _ _ _ 9 3426 _ _ _ [.ref (m + 9), .ref m] _
  refine x_putF 14 ho hnm d_MO_init_80 cl_MO (by decide) g_771 k_165 rfl rfl rfl rfl (Nat.le_of_ble_eq_true rfl) (rA_in (by omega) (by omega)) (fun H_167 p_168 z_169 q_170 => ?_)
  have k_171 := k_157.kept (q_170 _ (by omega))
  have k_172 := k_158.kept (q_170 _ (by omega))
  have k_173 := k_159.kept (q_170 _ (by omega))
  have k_174 := k_160.kept (q_170 _ (by omega))
  have k_175 := k_161.kept (q_170 _ (by omega))
  have k_176 := k_162.kept (q_170 _ (by omega))
  have k_177 := k_163.kept (q_170 _ (by omega))
  have k_178 := k_164.kept (q_170 _ (by omega))
  have k_179 := p_154.kept (q_170 _ (by omega))
  have s_180 : H_167.size = m + 10 := z_169.trans s_166
  clear k_157 k_158 k_159 k_160 k_161 k_162 k_163 k_164 k_165 p_154 z_169 q_170 s_166
  refine x_aload_n ho 0 d_MO_init_83 rfl ?_
  refine x_bipush (z := 16) ho d_MO_init_84 (by decide) ?_
  refine x_newI (n := 16) (z := 16) ho d_MO_init_86 rfl (by decide) (Nat.le_of_ble_eq_true rfl) (Nat.le_of_ble_eq_true rfl) s_180 (fun H_181 p_182 z_183 q_184 => ?_)
  have k_185 := k_171.kept (q_184 _ (by have := k_171.lt; omega))
  have k_186 := k_172.kept (q_184 _ (by have := k_172.lt; omega))
  have k_187 := k_173.kept (q_184 _ (by have := k_173.lt; omega))
  have k_188 := k_174.kept (q_184 _ (by have := k_174.lt; omega))
  have k_189 := k_175.kept (q_184 _ (by have := k_175.lt; omega))
  have k_190 := k_176.kept (q_184 _ (by have := k_176.lt; omega))
  have k_191 := k_177.kept (q_184 _ (by have := k_177.lt; omega))
  have k_192 := k_178.kept (q_184 _ (by have := k_178.lt; omega))
  have k_193 := k_179.kept (q_184 _ (by have := k_179.lt; omega))
  have k_194 := p_168.kept (q_184 _ (by have := p_168.lt; omega))
  have s_195 : H_181.size = m + 11 := z_183
  clear k_171 k_172 k_173 k_174 k_175 k_176 k_177 k_178 k_179 p_168 z_183 q_184 s_180
  show X _ _ _ _ 10 3442 _ _ _ [.ref (m + 10), .ref m] _
  refine x_putF 15 ho hnm d_MO_init_88 cl_MO (by decide) g_772 k_194 rfl rfl rfl rfl (Nat.le_of_ble_eq_true rfl) (rA_in (by omega) (by omega)) (fun H_196 p_197 z_198 q_199 => ?_)
  have k_200 := k_185.kept (q_199 _ (by omega))
  have k_201 := k_186.kept (q_199 _ (by omega))
  have k_202 := k_187.kept (q_199 _ (by omega))
  have k_203 := k_188.kept (q_199 _ (by omega))
  have k_204 := k_189.kept (q_199 _ (by omega))
  have k_205 := k_190.kept (q_199 _ (by omega))
  have k_206 := k_191.kept (q_199 _ (by omega))
  have k_207 := k_192.kept (q_199 _ (by omega))
  have k_208 := k_193.kept (q_199 _ (by omega))
  have k_209 := p_182.kept (q_199 _ (by omega))
  have s_210 : H_196.size = m + 11 := z_198.trans s_195
  clear k_185 k_186 k_187 k_188 k_189 k_190 k_191 k_192 k_193 k_194 p_182 z_198 q_199 s_195
  refine x_aload_n ho 0 d_MO_init_91 rfl ?_
  refine x_iconst ho d_MO_init_92 ?_
  refine x_newI (n := 4) (z := 4) ho d_MO_init_93 rfl (by decide) (Nat.le_of_ble_eq_true rfl) (Nat.le_of_ble_eq_true rfl) s_210 (fun H_211 p_212 z_213 q_214 => ?_)
  have k_215 := k_200.kept (q_214 _ (by have := k_200.lt; omega))
  have k_216 := k_201.kept (q_214 _ (by have := k_201.lt; omega))
  have k_217 := k_202.kept (q_214 _ (by have := k_202.lt; omega))
  have k_218 := k_203.kept (q_214 _ (by have := k_203.lt; omega))
  have k_219 := k_204.kept (q_214 _ (by have := k_204.lt; omega))
  have k_220 := k_205.kept (q_214 _ (by have := k_205.lt; omega))
  have k_221 := k_206.kept (q_214 _ (by have := k_206.lt; omega))
  have k_222 := k_207.kept (q_214 _ (by have := k_207.lt; omega))
  have k_223 := k_208.kept (q_214 _ (by have := k_208.lt; omega))
  have k_224 := k_209.kept (q_214 _ (by have := k_209.lt; omega))
  have k_225 := p_197.kept (q_214 _ (by have := p_197.lt; omega))
  have s_226 : H_211.size = m + 12 := z_213
  clear k_200 k_201 k_202 k_203 k_204 k_205 k_206 k_207 k_208 k_209 p_197 z_213 q_214 s_210
  show X _ _ _ _ 11 3446 _ _ _ [.ref (m + 11), .ref m] _
  refine x_putF 16 ho hnm d_MO_init_95 cl_MO (by decide) g_773 k_225 rfl rfl rfl rfl (Nat.le_of_ble_eq_true rfl) (rA_in (by omega) (by omega)) (fun H_227 p_228 z_229 q_230 => ?_)
  have k_231 := k_215.kept (q_230 _ (by omega))
  have k_232 := k_216.kept (q_230 _ (by omega))
  have k_233 := k_217.kept (q_230 _ (by omega))
  have k_234 := k_218.kept (q_230 _ (by omega))
  have k_235 := k_219.kept (q_230 _ (by omega))
  have k_236 := k_220.kept (q_230 _ (by omega))
  have k_237 := k_221.kept (q_230 _ (by omega))
  have k_238 := k_222.kept (q_230 _ (by omega))
  have k_239 := k_223.kept (q_230 _ (by omega))
  have k_240 := k_224.kept (q_230 _ (by omega))
  have k_241 := p_212.kept (q_230 _ (by omega))
  have s_242 : H_227.size = m + 12 := z_229.trans s_226
  clear k_215 k_216 k_217 k_218 k_219 k_220 k_221 k_222 k_223 k_224 k_225 p_212 z_229 q_230 s_226
  refine x_iconst ho d_MO_init_98 ?_
  refine x_istore_n (L' := [(1, zV 0), (0, .ref m)]) ho d_MO_init_99 (by decide) rfl ?_
  refine x_iload_n ho 0 d_MO_init_100 rfl ?_
  refine x_iconst ho d_MO_init_101 ?_
  refine x_icmp_ge (tgt := 133) ho d_MO_init_102 (by decide) (by omega) (by omega) (fun c => absurd c (by decide)) (fun _ => ?_)
  refine x_aload_n ho 1 d_MO_init_105 rfl ?_
  refine x_get 0 ho d_MO_init_106 cl_MO (by decide) g_757 p_228 rfl ?_
  refine x_bipush (z := 9) ho d_MO_init_109 (by decide) ?_
  refine x_iload_n ho 0 d_MO_init_111 rfl ?_
  refine x_imul ho d_MO_init_112 ?_
  refine x_iconst ho d_MO_init_113 ?_
  refine x_iast ho d_MO_init_114 k_231 (by omega) (by omega) (by omega) (rA_in (by omega) (by omega)) (fun H_243 p_244 z_245 q_246 => ?_)
  have k_247 := k_232.kept (q_246 _ (by omega))
  have k_248 := k_233.kept (q_246 _ (by omega))
  have k_249 := k_234.kept (q_246 _ (by omega))
  have k_250 := k_235.kept (q_246 _ (by omega))
  have k_251 := k_236.kept (q_246 _ (by omega))
  have k_252 := k_237.kept (q_246 _ (by omega))
  have k_253 := k_238.kept (q_246 _ (by omega))
  have k_254 := k_239.kept (q_246 _ (by omega))
  have k_255 := k_240.kept (q_246 _ (by omega))
  have k_256 := k_241.kept (q_246 _ (by omega))
  have k_257 := p_228.kept (q_246 _ (by omega))
  have s_258 : H_243.size = m + 12 := z_245.trans s_242
  clear k_231 k_232 k_233 k_234 k_235 k_236 k_237 k_238 k_239 k_240 k_241 p_228 z_245 q_246 s_242
  refine x_aload_n ho 1 d_MO_init_115 rfl ?_
  refine x_get 0 ho d_MO_init_116 cl_MO (by decide) g_757 k_257 rfl ?_
  refine x_bipush (z := 9) ho d_MO_init_119 (by decide) ?_
  refine x_iload_n ho 0 d_MO_init_121 rfl ?_
  refine x_imul ho d_MO_init_122 ?_
  refine x_iconst ho d_MO_init_123 ?_
  refine x_iadd ho d_MO_init_124 ?_
  refine x_iload_n ho 0 d_MO_init_125 rfl ?_
  refine x_iast ho d_MO_init_126 p_244 (by omega) (by omega) (by omega) (rA_in (by omega) (by omega)) (fun H_259 p_260 z_261 q_262 => ?_)
  have k_263 := k_247.kept (q_262 _ (by omega))
  have k_264 := k_248.kept (q_262 _ (by omega))
  have k_265 := k_249.kept (q_262 _ (by omega))
  have k_266 := k_250.kept (q_262 _ (by omega))
  have k_267 := k_251.kept (q_262 _ (by omega))
  have k_268 := k_252.kept (q_262 _ (by omega))
  have k_269 := k_253.kept (q_262 _ (by omega))
  have k_270 := k_254.kept (q_262 _ (by omega))
  have k_271 := k_255.kept (q_262 _ (by omega))
  have k_272 := k_256.kept (q_262 _ (by omega))
  have k_273 := k_257.kept (q_262 _ (by omega))
  have s_274 : H_259.size = m + 12 := z_261.trans s_258
  clear k_247 k_248 k_249 k_250 k_251 k_252 k_253 k_254 k_255 k_256 k_257 p_244 z_261 q_262 s_258
  refine x_iinc (L' := [(1, zV 1), (0, .ref m)]) ho 0 d_MO_init_127 rfl rfl (by decide) rfl ?_
  refine x_goto (tgt := 100) ho d_MO_init_130 (by decide) ?_
  refine x_iload_n ho 0 d_MO_init_100 rfl ?_
  refine x_iconst ho d_MO_init_101 ?_
  refine x_icmp_ge (tgt := 133) ho d_MO_init_102 (by decide) (by omega) (by omega) (fun c => absurd c (by decide)) (fun _ => ?_)
  refine x_aload_n ho 1 d_MO_init_105 rfl ?_
  refine x_get 0 ho d_MO_init_106 cl_MO (by decide) g_757 k_273 rfl ?_
  refine x_bipush (z := 9) ho d_MO_init_109 (by decide) ?_
  refine x_iload_n ho 0 d_MO_init_111 rfl ?_
  refine x_imul ho d_MO_init_112 ?_
  refine x_iconst ho d_MO_init_113 ?_
  refine x_iast ho d_MO_init_114 p_260 (by omega) (by omega) (by omega) (rA_in (by omega) (by omega)) (fun H_275 p_276 z_277 q_278 => ?_)
  have k_279 := k_263.kept (q_278 _ (by omega))
  have k_280 := k_264.kept (q_278 _ (by omega))
  have k_281 := k_265.kept (q_278 _ (by omega))
  have k_282 := k_266.kept (q_278 _ (by omega))
  have k_283 := k_267.kept (q_278 _ (by omega))
  have k_284 := k_268.kept (q_278 _ (by omega))
  have k_285 := k_269.kept (q_278 _ (by omega))
  have k_286 := k_270.kept (q_278 _ (by omega))
  have k_287 := k_271.kept (q_278 _ (by omega))
  have k_288 := k_272.kept (q_278 _ (by omega))
  have k_289 := k_273.kept (q_278 _ (by omega))
  have s_290 : H_275.size = m + 12 := z_277.trans s_274
  clear k_263 k_264 k_265 k_266 k_267 k_268 k_269 k_270 k_271 k_272 k_273 p_260 z_277 q_278 s_274
  refine x_aload_n ho 1 d_MO_init_115 rfl ?_
  refine x_get 0 ho d_MO_init_116 cl_MO (by decide) g_757 k_289 rfl ?_
  refine x_bipush (z := 9) ho d_MO_init_119 (by decide) ?_
  refine x_iload_n ho 0 d_MO_init_121 rfl ?_
  refine x_imul ho d_MO_init_122 ?_
  refine x_iconst ho d_MO_init_123 ?_
  refine x_iadd ho d_MO_init_124 ?_
  refine x_iload_n ho 0 d_MO_init_125 rfl ?_
  refine x_iast ho d_MO_init_126 p_276 (by omega) (by omega) (by omega) (rA_in (by omega) (by omega)) (fun H_291 p_292 z_293 q_294 => ?_)
  have k_295 := k_279.kept (q_294 _ (by omega))
  have k_296 := k_280.kept (q_294 _ (by omega))
  have k_297 := k_281.kept (q_294 _ (by omega))
  have k_298 := k_282.kept (q_294 _ (by omega))
  have k_299 := k_283.kept (q_294 _ (by omega))
  have k_300 := k_284.kept (q_294 _ (by omega))
  have k_301 := k_285.kept (q_294 _ (by omega))
  have k_302 := k_286.kept (q_294 _ (by omega))
  have k_303 := k_287.kept (q_294 _ (by omega))
  have k_304 := k_288.kept (q_294 _ (by omega))
  have k_305 := k_289.kept (q_294 _ (by omega))
  have s_306 : H_291.size = m + 12 := z_293.trans s_290
  clear k_279 k_280 k_281 k_282 k_283 k_284 k_285 k_286 k_287 k_288 k_289 p_276 z_293 q_294 s_290
  refine x_iinc (L' := [(1, zV 2), (0, .ref m)]) ho 0 d_MO_init_127 rfl rfl (by decide) rfl ?_
  refine x_goto (tgt := 100) ho d_MO_init_130 (by decide) ?_
  refine x_iload_n ho 0 d_MO_init_100 rfl ?_
  refine x_iconst ho d_MO_init_101 ?_
  refine x_icmp_ge (tgt := 133) ho d_MO_init_102 (by decide) (by omega) (by omega) (fun c => absurd c (by decide)) (fun _ => ?_)
  refine x_aload_n ho 1 d_MO_init_105 rfl ?_
  refine x_get 0 ho d_MO_init_106 cl_MO (by decide) g_757 k_305 rfl ?_
  refine x_bipush (z := 9) ho d_MO_init_109 (by decide) ?_
  refine x_iload_n ho 0 d_MO_init_111 rfl ?_
  refine x_imul ho d_MO_init_112 ?_
  refine x_iconst ho d_MO_init_113 ?_
  refine x_iast ho d_MO_init_114 p_292 (by omega) (by omega) (by omega) (rA_in (by omega) (by omega)) (fun H_307 p_308 z_309 q_310 => ?_)
  have k_311 := k_295.kept (q_310 _ (by omega))
  have k_312 := k_296.kept (q_310 _ (by omega))
  have k_313 := k_297.kept (q_310 _ (by omega))
  have k_314 := k_298.kept (q_310 _ (by omega))
  have k_315 := k_299.kept (q_310 _ (by omega))
  have k_316 := k_300.kept (q_310 _ (by omega))
  have k_317 := k_301.kept (q_310 _ (by omega))
  have k_318 := k_302.kept (q_310 _ (by omega))
  have k_319 := k_303.kept (q_310 _ (by omega))
  have k_320 := k_304.kept (q_310 _ (by omega))
  have k_321 := k_305.kept (q_310 _ (by omega))
  have s_322 : H_307.size = m + 12 := z_309.trans s_306
  clear k_295 k_296 k_297 k_298 k_299 k_300 k_301 k_302 k_303 k_304 k_305 p_292 z_309 q_310 s_306
  refine x_aload_n ho 1 d_MO_init_115 rfl ?_
  refine x_get 0 ho d_MO_init_116 cl_MO (by decide) g_757 k_321 rfl ?_
  refine x_bipush (z := 9) ho d_MO_init_119 (by decide) ?_
  refine x_iload_n ho 0 d_MO_init_121 rfl ?_
  refine x_imul ho d_MO_init_122 ?_
  refine x_iconst ho d_MO_init_123 ?_
  refine x_iadd ho d_MO_init_124 ?_
  refine x_iload_n ho 0 d_MO_init_125 rfl ?_
  refine x_iast ho d_MO_init_126 p_308 (by omega) (by omega) (by omega) (rA_in (by omega) (by omega)) (fun H_323 p_324 z_325 q_326 => ?_)
  have k_327 := k_311.kept (q_326 _ (by omega))
  have k_328 := k_312.kept (q_326 _ (by omega))
  have k_329 := k_313.kept (q_326 _ (by omega))
  have k_330 := k_314.kept (q_326 _ (by omega))
  have k_331 := k_315.kept (q_326 _ (by omega))
  have k_332 := k_316.kept (q_326 _ (by omega))
  have k_333 := k_317.kept (q_326 _ (by omega))
  have k_334 := k_318.kept (q_326 _ (by omega))
  have k_335 := k_319.kept (q_326 _ (by omega))
  have k_336 := k_320.kept (q_326 _ (by omega))
  have k_337 := k_321.kept (q_326 _ (by omega))
  have s_338 : H_323.size = m + 12 := z_325.trans s_322
  clear k_311 k_312 k_313 k_314 k_315 k_316 k_317 k_318 k_319 k_320 k_321 p_308 z_325 q_326 s_322
  refine x_iinc (L' := [(1, zV 3), (0, .ref m)]) ho 0 d_MO_init_127 rfl rfl (by decide) rfl ?_
  refine x_goto (tgt := 100) ho d_MO_init_130 (by decide) ?_
  refine x_iload_n ho 0 d_MO_init_100 rfl ?_
  refine x_iconst ho d_MO_init_101 ?_
  refine x_icmp_ge (tgt := 133) ho d_MO_init_102 (by decide) (by omega) (by omega) (fun c => absurd c (by decide)) (fun _ => ?_)
  refine x_aload_n ho 1 d_MO_init_105 rfl ?_
  refine x_get 0 ho d_MO_init_106 cl_MO (by decide) g_757 k_337 rfl ?_
  refine x_bipush (z := 9) ho d_MO_init_109 (by decide) ?_
  refine x_iload_n ho 0 d_MO_init_111 rfl ?_
  refine x_imul ho d_MO_init_112 ?_
  refine x_iconst ho d_MO_init_113 ?_
  refine x_iast ho d_MO_init_114 p_324 (by omega) (by omega) (by omega) (rA_in (by omega) (by omega)) (fun H_339 p_340 z_341 q_342 => ?_)
  have k_343 := k_327.kept (q_342 _ (by omega))
  have k_344 := k_328.kept (q_342 _ (by omega))
  have k_345 := k_329.kept (q_342 _ (by omega))
  have k_346 := k_330.kept (q_342 _ (by omega))
  have k_347 := k_331.kept (q_342 _ (by omega))
  have k_348 := k_332.kept (q_342 _ (by omega))
  have k_349 := k_333.kept (q_342 _ (by omega))
  have k_350 := k_334.kept (q_342 _ (by omega))
  have k_351 := k_335.kept (q_342 _ (by omega))
  have k_352 := k_336.kept (q_342 _ (by omega))
  have k_353 := k_337.kept (q_342 _ (by omega))
  have s_354 : H_339.size = m + 12 := z_341.trans s_338
  clear k_327 k_328 k_329 k_330 k_331 k_332 k_333 k_334 k_335 k_336 k_337 p_324 z_341 q_342 s_338
  refine x_aload_n ho 1 d_MO_init_115 rfl ?_
  refine x_get 0 ho d_MO_init_116 cl_MO (by decide) g_757 k_353 rfl ?_
  refine x_bipush (z := 9) ho d_MO_init_119 (by decide) ?_
  refine x_iload_n ho 0 d_MO_init_121 rfl ?_
  refine x_imul ho d_MO_init_122 ?_
  refine x_iconst ho d_MO_init_123 ?_
  refine x_iadd ho d_MO_init_124 ?_
  refine x_iload_n ho 0 d_MO_init_125 rfl ?_
  refine x_iast ho d_MO_init_126 p_340 (by omega) (by omega) (by omega) (rA_in (by omega) (by omega)) (fun H_355 p_356 z_357 q_358 => ?_)
  have k_359 := k_343.kept (q_358 _ (by omega))
  have k_360 := k_344.kept (q_358 _ (by omega))
  have k_361 := k_345.kept (q_358 _ (by omega))
  have k_362 := k_346.kept (q_358 _ (by omega))
  have k_363 := k_347.kept (q_358 _ (by omega))
  have k_364 := k_348.kept (q_358 _ (by omega))
  have k_365 := k_349.kept (q_358 _ (by omega))
  have k_366 := k_350.kept (q_358 _ (by omega))
  have k_367 := k_351.kept (q_358 _ (by omega))
  have k_368 := k_352.kept (q_358 _ (by omega))
  have k_369 := k_353.kept (q_358 _ (by omega))
  have s_370 : H_355.size = m + 12 := z_357.trans s_354
  clear k_343 k_344 k_345 k_346 k_347 k_348 k_349 k_350 k_351 k_352 k_353 p_340 z_357 q_358 s_354
  refine x_iinc (L' := [(1, zV 4), (0, .ref m)]) ho 0 d_MO_init_127 rfl rfl (by decide) rfl ?_
  refine x_goto (tgt := 100) ho d_MO_init_130 (by decide) ?_
  refine x_iload_n ho 0 d_MO_init_100 rfl ?_
  refine x_iconst ho d_MO_init_101 ?_
  refine x_icmp_ge (tgt := 133) ho d_MO_init_102 (by decide) (by omega) (by omega) (fun _ => ?_) (fun c => absurd c (by decide))
  refine x_aload_n ho 1 d_MO_init_133 rfl ?_
  refine x_get 0 ho d_MO_init_134 cl_MO (by decide) g_757 k_369 rfl ?_
  refine x_bipush (z := 36) ho d_MO_init_137 (by decide) ?_
  refine x_iconst ho d_MO_init_139 ?_
  refine x_iast ho d_MO_init_140 p_356 (by omega) (by omega) (by omega) (rA_in (by omega) (by omega)) (fun H_371 p_372 z_373 q_374 => ?_)
  have k_375 := k_359.kept (q_374 _ (by omega))
  have k_376 := k_360.kept (q_374 _ (by omega))
  have k_377 := k_361.kept (q_374 _ (by omega))
  have k_378 := k_362.kept (q_374 _ (by omega))
  have k_379 := k_363.kept (q_374 _ (by omega))
  have k_380 := k_364.kept (q_374 _ (by omega))
  have k_381 := k_365.kept (q_374 _ (by omega))
  have k_382 := k_366.kept (q_374 _ (by omega))
  have k_383 := k_367.kept (q_374 _ (by omega))
  have k_384 := k_368.kept (q_374 _ (by omega))
  have k_385 := k_369.kept (q_374 _ (by omega))
  have s_386 : H_371.size = m + 12 := z_373.trans s_370
  clear k_359 k_360 k_361 k_362 k_363 k_364 k_365 k_366 k_367 k_368 k_369 p_356 z_373 q_374 s_370
  refine x_vret ho hr d_MO_init_141 ?_
  refine ⟨rfl, isO_mk k_385 ⟨_, p_372, rp0 (fun j a b => ?_), ok0⟩ ⟨_, k_375, fun j a b => (by have q : j < 0 := b; omega), Nat.zero_le _, fun _ q => (by cases q)⟩ ⟨_, k_376, fun q => (by cases q)⟩ k_377 k_378 k_379 k_380 ⟨⟨_, k_381, no0⟩, Nat.zero_le _, fun _ q => (by cases q)⟩ k_382 k_383 k_384 (Or.inl rfl)⟩
  simp only [zU]
  (repeat' split) <;> omega
