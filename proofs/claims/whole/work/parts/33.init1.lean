def q_LE_init (D : GG) (o : Nat) : Option Value → Heap → Prop := fun v0 H => v0 = none ∧ isL D H o 8 ([])
theorem yv_LE_init : Yv y_LE_init b_LE_init 2 (Option.none : Option FieldType) 1 := ⟨g_92, g_56, by decide, by decide +kernel⟩
set_option maxHeartbeats 4000000 in
set_option maxRecDepth 100000 in
theorem c_LE_init (l0 : Launch) (D : GG) (o : Nat)  : Ct l0 D y_LE_init b_LE_init 2 (Option.none : Option FieldType) ({ frames := 1, cells := 1, slots := 8, locals := 21 } : Room) [.ref o, zV 8] (fun H => At D H o (oO 2 [.null, zV 0]) ∧ H.size = o + 1) (rA o (o + 2)) 1 8 (q_LE_init D o) := by
  refine Ct.of (L := [(0, .ref o), (1, zV 8)]) (by decide) (Nat.le_of_ble_eq_true rfl) rfl (fun M H ho hr hnm hH hpre => ?_)
  obtain ⟨t_o, t_z⟩ := hpre
  refine x_aload_n ho 0 d_LE_init_0 rfl ?_
  refine x_oinit ho d_LE_init_1 g_93 (Nat.le_of_ble_eq_true rfl) (Nat.le_of_ble_eq_true rfl) ?_
  refine x_aload_n ho 0 d_LE_init_4 rfl ?_
  refine x_iconst ho d_LE_init_5 ?_
  refine x_put 1 ho d_LE_init_6 cl_LE (by decide) g_98 t_o rfl rfl rfl (Nat.le_of_ble_eq_true rfl) (rA_in (by omega) (by omega)) (fun H_1 p_2 z_3 q_4 => ?_)
  have s_5 : H_1.size = o + 1 := z_3.trans t_z
  clear t_o z_3 q_4 t_z
  refine x_aload_n ho 0 d_LE_init_9 rfl ?_
  refine x_iload_n ho 1 d_LE_init_10 rfl ?_
  refine x_iconst ho d_LE_init_11 ?_
  refine x_mmax ho d_LE_init_12 g_94 (by omega) (by omega) (Nat.le_of_ble_eq_true rfl) (Nat.le_of_ble_eq_true rfl) (Nat.zero_le _) (Nat.zero_le _) ?_
  refine x_eqI (b := 8) (by decide) ?_
  refine x_newI (n := 8) (z := 8) ho d_LE_init_15 rfl (by decide) (Nat.le_of_ble_eq_true rfl) (Nat.le_of_ble_eq_true rfl) s_5 (fun H_6 p_7 z_8 q_9 => ?_)
  have k_10 := p_2.kept (q_9 _ (by have := p_2.lt; omega))
  have s_11 : H_6.size = o + 2 := z_8
  clear p_2 z_8 q_9 s_5
  show X _ _ _ _ 1 8 _ _ _ [.ref (o + 1), .ref o] _
  refine x_putF 0 ho hnm d_LE_init_17 cl_LE (by decide) g_97 k_10 rfl rfl rfl rfl (Nat.le_of_ble_eq_true rfl) (rA_in (by omega) (by omega)) (fun H_12 p_13 z_14 q_15 => ?_)
  have k_16 := p_7.kept (q_15 _ (by omega))
  have s_17 : H_12.size = o + 2 := z_14.trans s_11
  clear k_10 p_7 z_14 q_15 s_11
  refine x_vret ho hr d_LE_init_20 ?_
  exact ⟨rfl, isL_mk p_13 k_16 rfl no0 (Nat.zero_le _) (Nat.le_of_ble_eq_true rfl) wf_nil⟩
def q_LE_init_0 (D : GG) (o : Nat) : Option Value → Heap → Prop := fun v0 H => v0 = none ∧ isL D H o 0 ([])
set_option maxHeartbeats 4000000 in
set_option maxRecDepth 100000 in
theorem c_LE_init_0 (l0 : Launch) (D : GG) (o : Nat)  : Ct l0 D y_LE_init b_LE_init 2 (Option.none : Option FieldType) ({ frames := 1, cells := 1, slots := 0, locals := 21 } : Room) [.ref o, zV 0] (fun H => At D H o (oO 2 [.null, zV 0]) ∧ H.size = o + 1) (rA o (o + 2)) 1 0 (q_LE_init_0 D o) := by
  refine Ct.of (L := [(0, .ref o), (1, zV 0)]) (by decide) (Nat.le_of_ble_eq_true rfl) rfl (fun M H ho hr hnm hH hpre => ?_)
  obtain ⟨t_o, t_z⟩ := hpre
  refine x_aload_n ho 0 d_LE_init_0 rfl ?_
  refine x_oinit ho d_LE_init_1 g_93 (Nat.le_of_ble_eq_true rfl) (Nat.le_of_ble_eq_true rfl) ?_
  refine x_aload_n ho 0 d_LE_init_4 rfl ?_
  refine x_iconst ho d_LE_init_5 ?_
  refine x_put 1 ho d_LE_init_6 cl_LE (by decide) g_98 t_o rfl rfl rfl (Nat.le_of_ble_eq_true rfl) (rA_in (by omega) (by omega)) (fun H_1 p_2 z_3 q_4 => ?_)
  have s_5 : H_1.size = o + 1 := z_3.trans t_z
  clear t_o z_3 q_4 t_z
  refine x_aload_n ho 0 d_LE_init_9 rfl ?_
  refine x_iload_n ho 1 d_LE_init_10 rfl ?_
  refine x_iconst ho d_LE_init_11 ?_
  refine x_mmax ho d_LE_init_12 g_94 (by omega) (by omega) (Nat.le_of_ble_eq_true rfl) (Nat.le_of_ble_eq_true rfl) (Nat.zero_le _) (Nat.zero_le _) ?_
  refine x_eqI (b := 0) (by decide) ?_
  refine x_newI (n := 0) (z := 0) ho d_LE_init_15 rfl (by decide) (Nat.le_of_ble_eq_true rfl) (Nat.le_of_ble_eq_true rfl) s_5 (fun H_6 p_7 z_8 q_9 => ?_)
  have k_10 := p_2.kept (q_9 _ (by have := p_2.lt; omega))
  have s_11 : H_6.size = o + 2 := z_8
  clear p_2 z_8 q_9 s_5
  show X _ _ _ _ 1 0 _ _ _ [.ref (o + 1), .ref o] _
  refine x_putF 0 ho hnm d_LE_init_17 cl_LE (by decide) g_97 k_10 rfl rfl rfl rfl (Nat.le_of_ble_eq_true rfl) (rA_in (by omega) (by omega)) (fun H_12 p_13 z_14 q_15 => ?_)
  have k_16 := p_7.kept (q_15 _ (by omega))
  have s_17 : H_12.size = o + 2 := z_14.trans s_11
  clear k_10 p_7 z_14 q_15 s_11
  refine x_vret ho hr d_LE_init_20 ?_
  exact ⟨rfl, isL_mk p_13 k_16 rfl no0 (Nat.zero_le _) (Nat.le_of_ble_eq_true rfl) wf_nil⟩
def q_LE_init_20 (D : GG) (o : Nat) : Option Value → Heap → Prop := fun v0 H => v0 = none ∧ isL D H o 20 ([])
set_option maxHeartbeats 4000000 in
set_option maxRecDepth 100000 in
theorem c_LE_init_20 (l0 : Launch) (D : GG) (o : Nat)  : Ct l0 D y_LE_init b_LE_init 2 (Option.none : Option FieldType) ({ frames := 1, cells := 1, slots := 20, locals := 21 } : Room) [.ref o, zV 20] (fun H => At D H o (oO 2 [.null, zV 0]) ∧ H.size = o + 1) (rA o (o + 2)) 1 20 (q_LE_init_20 D o) := by
  refine Ct.of (L := [(0, .ref o), (1, zV 20)]) (by decide) (Nat.le_of_ble_eq_true rfl) rfl (fun M H ho hr hnm hH hpre => ?_)
  obtain ⟨t_o, t_z⟩ := hpre
  refine x_aload_n ho 0 d_LE_init_0 rfl ?_
  refine x_oinit ho d_LE_init_1 g_93 (Nat.le_of_ble_eq_true rfl) (Nat.le_of_ble_eq_true rfl) ?_
  refine x_aload_n ho 0 d_LE_init_4 rfl ?_
  refine x_iconst ho d_LE_init_5 ?_
  refine x_put 1 ho d_LE_init_6 cl_LE (by decide) g_98 t_o rfl rfl rfl (Nat.le_of_ble_eq_true rfl) (rA_in (by omega) (by omega)) (fun H_1 p_2 z_3 q_4 => ?_)
  have s_5 : H_1.size = o + 1 := z_3.trans t_z
  clear t_o z_3 q_4 t_z
  refine x_aload_n ho 0 d_LE_init_9 rfl ?_
  refine x_iload_n ho 1 d_LE_init_10 rfl ?_
  refine x_iconst ho d_LE_init_11 ?_
  refine x_mmax ho d_LE_init_12 g_94 (by omega) (by omega) (Nat.le_of_ble_eq_true rfl) (Nat.le_of_ble_eq_true rfl) (Nat.zero_le _) (Nat.zero_le _) ?_
  refine x_eqI (b := 20) (by decide) ?_
  refine x_newI (n := 20) (z := 20) ho d_LE_init_15 rfl (by decide) (Nat.le_of_ble_eq_true rfl) (Nat.le_of_ble_eq_true rfl) s_5 (fun H_6 p_7 z_8 q_9 => ?_)
  have k_10 := p_2.kept (q_9 _ (by have := p_2.lt; omega))
  have s_11 : H_6.size = o + 2 := z_8
  clear p_2 z_8 q_9 s_5
  show X _ _ _ _ 1 20 _ _ _ [.ref (o + 1), .ref o] _
  refine x_putF 0 ho hnm d_LE_init_17 cl_LE (by decide) g_97 k_10 rfl rfl rfl rfl (Nat.le_of_ble_eq_true rfl) (rA_in (by omega) (by omega)) (fun H_12 p_13 z_14 q_15 => ?_)
  have k_16 := p_7.kept (q_15 _ (by omega))
  have s_17 : H_12.size = o + 2 := z_14.trans s_11
  clear k_10 p_7 z_14 q_15 s_11
  refine x_vret ho hr d_LE_init_20 ?_
  exact ⟨rfl, isL_mk p_13 k_16 rfl no0 (Nat.zero_le _) (Nat.le_of_ble_eq_true rfl) wf_nil⟩
def q_LE_init_300 (D : GG) (o : Nat) : Option Value → Heap → Prop := fun v0 H => v0 = none ∧ isL D H o 300 ([])
set_option maxHeartbeats 4000000 in
set_option maxRecDepth 100000 in
theorem c_LE_init_300 (l0 : Launch) (D : GG) (o : Nat)  : Ct l0 D y_LE_init b_LE_init 2 (Option.none : Option FieldType) ({ frames := 1, cells := 1, slots := 300, locals := 21 } : Room) [.ref o, zV 300] (fun H => At D H o (oO 2 [.null, zV 0]) ∧ H.size = o + 1) (rA o (o + 2)) 1 300 (q_LE_init_300 D o) := by
  refine Ct.of (L := [(0, .ref o), (1, zV 300)]) (by decide) (Nat.le_of_ble_eq_true rfl) rfl (fun M H ho hr hnm hH hpre => ?_)
  obtain ⟨t_o, t_z⟩ := hpre
  refine x_aload_n ho 0 d_LE_init_0 rfl ?_
  refine x_oinit ho d_LE_init_1 g_93 (Nat.le_of_ble_eq_true rfl) (Nat.le_of_ble_eq_true rfl) ?_
  refine x_aload_n ho 0 d_LE_init_4 rfl ?_
  refine x_iconst ho d_LE_init_5 ?_
  refine x_put 1 ho d_LE_init_6 cl_LE (by decide) g_98 t_o rfl rfl rfl (Nat.le_of_ble_eq_true rfl) (rA_in (by omega) (by omega)) (fun H_1 p_2 z_3 q_4 => ?_)
  have s_5 : H_1.size = o + 1 := z_3.trans t_z
  clear t_o z_3 q_4 t_z
  refine x_aload_n ho 0 d_LE_init_9 rfl ?_
  refine x_iload_n ho 1 d_LE_init_10 rfl ?_
  refine x_iconst ho d_LE_init_11 ?_
  refine x_mmax ho d_LE_init_12 g_94 (by omega) (by omega) (Nat.le_of_ble_eq_true rfl) (Nat.le_of_ble_eq_true rfl) (Nat.zero_le _) (Nat.zero_le _) ?_
  refine x_eqI (b := 300) (by decide) ?_
  refine x_newI (n := 300) (z := 300) ho d_LE_init_15 rfl (by decide) (Nat.le_of_ble_eq_true rfl) (Nat.le_of_ble_eq_true rfl) s_5 (fun H_6 p_7 z_8 q_9 => ?_)
  have k_10 := p_2.kept (q_9 _ (by have := p_2.lt; omega))
  have s_11 : H_6.size = o + 2 := z_8
  clear p_2 z_8 q_9 s_5
  show X _ _ _ _ 1 300 _ _ _ [.ref (o + 1), .ref o] _
  refine x_putF 0 ho hnm d_LE_init_17 cl_LE (by decide) g_97 k_10 rfl rfl rfl rfl (Nat.le_of_ble_eq_true rfl) (rA_in (by omega) (by omega)) (fun H_12 p_13 z_14 q_15 => ?_)
  have k_16 := p_7.kept (q_15 _ (by omega))
  have s_17 : H_12.size = o + 2 := z_14.trans s_11
  clear k_10 p_7 z_14 q_15 s_11
  refine x_vret ho hr d_LE_init_20 ?_
  exact ⟨rfl, isL_mk p_13 k_16 rfl no0 (Nat.zero_le _) (Nat.le_of_ble_eq_true rfl) wf_nil⟩
def q_RU_init (D : GG) (r : Nat) : Option Value → Heap → Prop := fun v0 H => v0 = none ∧ isR D H r (rP r) one1
theorem yv_RU_init : Yv y_RU_init b_RU_init 3 (Option.none : Option FieldType) 0 := ⟨g_86, g_55, by decide, by decide +kernel⟩
set_option maxHeartbeats 4000000 in
set_option maxRecDepth 100000 in
theorem c_RU_init (l0 : Launch) (D : GG) (r : Nat)  : Ct l0 D y_RU_init b_RU_init 3 (Option.none : Option FieldType) ({ frames := 2, cells := 11, slots := 46, locals := 42 } : Room) [.ref r] (fun H => At D H r (oO 7 [.null, .null]) ∧ H.size = r + 1) (rA r (r + 12)) 11 46 (q_RU_init D r) := by
  refine Ct.of (L := [(0, .ref r)]) (by decide) (Nat.le_of_ble_eq_true rfl) rfl (fun M H ho hr hnm hH hpre => ?_)
  obtain ⟨t_o, t_z⟩ := hpre
  refine x_aload_n ho 0 d_RU_init_0 rfl ?_
  refine x_oinit ho d_RU_init_1 g_87 (Nat.le_of_ble_eq_true rfl) (Nat.le_of_ble_eq_true rfl) ?_
  refine x_aload_n ho 0 d_RU_init_4 rfl ?_
  refine x_iconst ho d_RU_init_5 ?_
  refine x_newR (k := 3) (n := 4) (z := 4) ho d_RU_init_6 g_88 (fun q => q.2.2.1) rfl rfl (by decide) (Nat.le_of_ble_eq_true rfl) (Nat.le_of_ble_eq_true rfl) t_z (fun H_1 p_2 z_3 q_4 => ?_)
  have k_5 := t_o.kept (q_4 _ (by have := t_o.lt; omega))
  have s_6 : H_1.size = r + 2 := z_3
  clear t_o z_3 q_4 t_z
  show X _ _ _ _ 1 4 _ _ _ [.ref (r + 1), .ref r] _
  refine x_putF 0 ho hnm d_RU_init_9 cl_RU (by decide) g_111 k_5 rfl rfl rfl rfl (Nat.le_of_ble_eq_true rfl) (rA_in (by omega) (by omega)) (fun H_7 p_8 z_9 q_10 => ?_)
  have k_11 := p_2.kept (q_10 _ (by omega))
  have s_12 : H_7.size = r + 2 := z_9.trans s_6
  clear k_5 p_2 z_9 q_10 s_6
  refine x_aload_n ho 0 d_RU_init_12 rfl ?_
  refine x_new (fs := [.null, zV 0]) ho d_RU_init_13 cl_LE g_88 g_89 g_56 (by decide +kernel) (Nat.le_of_ble_eq_true rfl) (Nat.le_of_ble_eq_true rfl) s_12 (fun H_13 p_14 z_15 q_16 => ?_)
  have k_17 := k_11.kept (q_16 _ (by have := k_11.lt; omega))
  have k_18 := p_8.kept (q_16 _ (by have := p_8.lt; omega))
  have s_19 : H_13.size = r + 3 := z_15
  clear k_11 p_8 z_15 q_16 s_12
  show X _ _ _ _ 2 6 _ _ _ [.ref (r + 2), .ref r] _
  refine x_dup ho d_RU_init_16 rfl ?_
  refine x_iconst ho d_RU_init_17 ?_
  refine x_callI (rest := [.ref (r + 2), .ref r]) ho d_RU_init_18 yv_LE_init rfl g_91 g_90 (c_LE_init_0 M.2.1 D (r + 2) ) rfl rfl ⟨Nat.le_of_ble_eq_true rfl, Nat.le_of_ble_eq_true rfl⟩ ⟨Nat.le_of_ble_eq_true rfl, Nat.le_of_ble_eq_true rfl⟩ rfl rfl (Nat.le_of_ble_eq_true rfl) ⟨p_14, (show H_13.size = (r + 2) + 1 by omega)⟩ (rA_sub (by omega) (by omega)) (fun v_20 H_22 hv_20 f_21 => ?_)
  have k_23 := k_17.kept (f_21.2 _ k_17.lt (rA_no (by omega)))
  have k_24 := k_18.kept (f_21.2 _ k_18.lt (rA_no (by omega)))
  have s_25 : H_22.size = r + 4 := by have := f_21.1; omega
  clear k_17 k_18 p_14 s_19 f_21
  obtain ⟨rfl, t_n_26⟩ := hv_20
  show X _ _ _ _ 3 6 _ _ _ [.ref (r + 2), .ref r] _
  refine x_putF 1 ho hnm d_RU_init_21 cl_RU (by decide) g_112 k_24 rfl rfl rfl rfl (Nat.le_of_ble_eq_true rfl) (rA_in (by omega) (by omega)) (fun H_27 p_28 z_29 q_30 => ?_)
  have k_31 := k_23.kept (q_30 _ (by omega))
  have k_32 := t_n_26.kept (fun q g1 g2 => q_30 q (by omega))
  have s_33 : H_27.size = r + 4 := z_29.trans s_25
  clear k_23 k_24 t_n_26 z_29 q_30 s_25
  refine x_iconst ho d_RU_init_24 ?_
  refine x_istore_n (L' := [(1, zV 0), (0, .ref r)]) ho d_RU_init_25 (by decide) rfl ?_
  refine x_iload_n ho 0 d_RU_init_26 rfl ?_
  refine x_iconst ho d_RU_init_27 ?_
  refine x_icmp_ge (tgt := 60) ho d_RU_init_28 (by decide) (by omega) (by omega) (fun c => absurd c (by decide)) (fun _ => ?_)
  refine x_new (fs := [.null, zV 0]) ho d_RU_init_31 cl_LE g_88 g_89 g_56 (by decide +kernel) (Nat.le_of_ble_eq_true rfl) (Nat.le_of_ble_eq_true rfl) s_33 (fun H_34 p_35 z_36 q_37 => ?_)
  have k_38 := k_31.kept (q_37 _ (by have := k_31.lt; omega))
  have k_39 := k_32.kept (fun q g1 g2 => q_37 q (by have := k_32.lt; omega))
  have k_40 := p_28.kept (q_37 _ (by have := p_28.lt; omega))
  have s_41 : H_34.size = r + 5 := z_36
  clear k_31 k_32 p_28 z_36 q_37 s_33
  show X _ _ _ _ 4 8 _ _ _ [.ref (r + 4)] _
  refine x_dup ho d_RU_init_34 rfl ?_
  refine x_bipush (z := 8) ho d_RU_init_35 (by decide) ?_
  refine x_callI (rest := [.ref (r + 4)]) ho d_RU_init_37 yv_LE_init rfl g_91 g_90 (c_LE_init M.2.1 D (r + 4) ) rfl rfl ⟨Nat.le_of_ble_eq_true rfl, Nat.le_of_ble_eq_true rfl⟩ ⟨Nat.le_of_ble_eq_true rfl, Nat.le_of_ble_eq_true rfl⟩ rfl rfl (Nat.le_of_ble_eq_true rfl) ⟨p_35, (show H_34.size = (r + 4) + 1 by omega)⟩ (rA_sub (by omega) (by omega)) (fun v_42 H_44 hv_42 f_43 => ?_)
  have k_45 := k_38.kept (f_43.2 _ k_38.lt (rA_no (by omega)))
  have k_46 := k_39.kept (fun q g1 g2 => f_43.2 q (by have := k_39.lt; omega) (rA_no (by omega)))
  have k_47 := k_40.kept (f_43.2 _ k_40.lt (rA_no (by omega)))
  have s_48 : H_44.size = r + 6 := by have := f_43.1; omega
  clear k_38 k_39 k_40 p_35 s_41 f_43
  obtain ⟨rfl, t_n_49⟩ := hv_42
  show X _ _ _ _ 5 16 _ _ _ [.ref (r + 4)] _
  refine x_astore_n (L' := [(2, .ref (r + 4)), (1, zV 0), (0, .ref r)]) ho d_RU_init_40 (by decide) rfl ?_
  refine x_aload_n ho 0 d_RU_init_41 rfl ?_
  refine x_iload_n ho 1 d_RU_init_42 rfl ?_
  refine x_callV (rest := []) ho d_RU_init_43 yv_LE_add g_106 g_107 g_105 (c_LE_add M.2.1 D (r + 4) 8 ([]) 0 (by omega)) rfl rfl ⟨Nat.le_of_ble_eq_true rfl, Nat.le_of_ble_eq_true rfl⟩ ⟨Nat.le_of_ble_eq_true rfl, Nat.le_of_ble_eq_true rfl⟩ rfl rfl (Nat.le_of_ble_eq_true rfl) t_n_49.1 rfl rfl t_n_49 (rA_sub (by omega) (by omega)) (fun v_50 H_52 hv_50 f_51 => ?_)
  have k_53 := k_45.kept (f_51.2 _ k_45.lt (rA_no (by omega)))
  have k_54 := k_46.kept (fun q g1 g2 => f_51.2 q (by have := k_46.lt; omega) (rA_no (by omega)))
  have k_55 := k_47.kept (f_51.2 _ k_47.lt (rA_no (by omega)))
  have s_56 : H_52.size = r + 6 := by have := f_51.1; omega
  clear k_45 k_46 k_47 t_n_49 s_48 f_51
  rcases hv_50 with ⟨rfl, hp_57, hL_58⟩ | ⟨rfl, hp_59, hL_60⟩
  ·
    show X _ _ _ _ _ _ _ _ _ [zV 1] _
    refine x_pop ho d_RU_init_46 rfl ?_
    refine x_aload_n ho 2 d_RU_init_47 rfl ?_
    refine x_get 0 ho d_RU_init_48 cl_RU (by decide) g_111 k_55 rfl ?_
    refine x_iload_n ho 1 d_RU_init_51 rfl ?_
    refine x_aload_n ho 0 d_RU_init_52 rfl ?_
    refine x_aast ho d_RU_init_53 k_53 rfl hL_58.1 rfl (by omega) (by omega) (by omega) (rA_in (by omega) (by omega)) (fun H_61 p_62 z_63 q_64 => ?_)
    have k_65 := k_54.kept (fun q g1 g2 => q_64 q (by omega))
    have k_66 := k_55.kept (q_64 _ (by omega))
    have k_67 := hL_58.kept (fun q g1 g2 => q_64 q (by omega))
    have s_68 : H_61.size = r + 6 := z_63.trans s_56
    clear k_53 k_54 k_55 hL_58 z_63 q_64 s_56
    refine x_iinc (L' := [(1, zV 1), (2, .ref (r + 4)), (0, .ref r)]) ho 1 d_RU_init_54 rfl rfl (by decide) rfl ?_
    refine x_goto (tgt := 26) ho d_RU_init_57 (by decide) ?_
    refine x_iload_n ho 0 d_RU_init_26 rfl ?_
    refine x_iconst ho d_RU_init_27 ?_
    refine x_icmp_ge (tgt := 60) ho d_RU_init_28 (by decide) (by omega) (by omega) (fun c => absurd c (by decide)) (fun _ => ?_)
    refine x_new (fs := [.null, zV 0]) ho d_RU_init_31 cl_LE g_88 g_89 g_56 (by decide +kernel) (Nat.le_of_ble_eq_true rfl) (Nat.le_of_ble_eq_true rfl) s_68 (fun H_69 p_70 z_71 q_72 => ?_)
    have k_73 := k_65.kept (fun q g1 g2 => q_72 q (by have := k_65.lt; omega))
    have k_74 := k_66.kept (q_72 _ (by have := k_66.lt; omega))
    have k_75 := k_67.kept (fun q g1 g2 => q_72 q (by have := k_67.lt; omega))
    have k_76 := p_62.kept (q_72 _ (by have := p_62.lt; omega))
    have s_77 : H_69.size = r + 7 := z_71
    clear k_65 k_66 k_67 p_62 z_71 q_72 s_68
    show X _ _ _ _ 6 18 _ _ _ [.ref (r + 6)] _
    refine x_dup ho d_RU_init_34 rfl ?_
    refine x_bipush (z := 8) ho d_RU_init_35 (by decide) ?_
    refine x_callI (rest := [.ref (r + 6)]) ho d_RU_init_37 yv_LE_init rfl g_91 g_90 (c_LE_init M.2.1 D (r + 6) ) rfl rfl ⟨Nat.le_of_ble_eq_true rfl, Nat.le_of_ble_eq_true rfl⟩ ⟨Nat.le_of_ble_eq_true rfl, Nat.le_of_ble_eq_true rfl⟩ rfl rfl (Nat.le_of_ble_eq_true rfl) ⟨p_70, (show H_69.size = (r + 6) + 1 by omega)⟩ (rA_sub (by omega) (by omega)) (fun v_78 H_80 hv_78 f_79 => ?_)
    have k_81 := k_73.kept (fun q g1 g2 => f_79.2 q (by have := k_73.lt; omega) (rA_no (by omega)))
    have k_82 := k_74.kept (f_79.2 _ k_74.lt (rA_no (by omega)))
    have k_83 := k_75.kept (fun q g1 g2 => f_79.2 q (by have := k_75.lt; omega) (rA_no (by omega)))
    have k_84 := k_76.kept (f_79.2 _ k_76.lt (rA_no (by omega)))
    have s_85 : H_80.size = r + 8 := by have := f_79.1; omega
    clear k_73 k_74 k_75 k_76 p_70 s_77 f_79
    obtain ⟨rfl, t_n_86⟩ := hv_78
    show X _ _ _ _ 7 26 _ _ _ [.ref (r + 6)] _
    refine x_astore_n (L' := [(2, .ref (r + 6)), (1, zV 1), (0, .ref r)]) ho d_RU_init_40 (by decide) rfl ?_
    refine x_aload_n ho 0 d_RU_init_41 rfl ?_
    refine x_iload_n ho 1 d_RU_init_42 rfl ?_
    refine x_callV (rest := []) ho d_RU_init_43 yv_LE_add g_106 g_107 g_105 (c_LE_add M.2.1 D (r + 6) 8 ([]) 1 (by omega)) rfl rfl ⟨Nat.le_of_ble_eq_true rfl, Nat.le_of_ble_eq_true rfl⟩ ⟨Nat.le_of_ble_eq_true rfl, Nat.le_of_ble_eq_true rfl⟩ rfl rfl (Nat.le_of_ble_eq_true rfl) t_n_86.1 rfl rfl t_n_86 (rA_sub (by omega) (by omega)) (fun v_87 H_89 hv_87 f_88 => ?_)
    have k_90 := k_81.kept (fun q g1 g2 => f_88.2 q (by have := k_81.lt; omega) (rA_no (by omega)))
    have k_91 := k_82.kept (f_88.2 _ k_82.lt (rA_no (by omega)))
    have k_92 := k_83.kept (fun q g1 g2 => f_88.2 q (by have := k_83.lt; omega) (rA_no (by omega)))
    have k_93 := k_84.kept (f_88.2 _ k_84.lt (rA_no (by omega)))
    have s_94 : H_89.size = r + 8 := by have := f_88.1; omega
    clear k_81 k_82 k_83 k_84 t_n_86 s_85 f_88
    rcases hv_87 with ⟨rfl, hp_95, hL_96⟩ | ⟨rfl, hp_97, hL_98⟩
    ·
      show X _ _ _ _ _ _ _ _ _ [zV 1] _
      refine x_pop ho d_RU_init_46 rfl ?_
      refine x_aload_n ho 2 d_RU_init_47 rfl ?_
      refine x_get 0 ho d_RU_init_48 cl_RU (by decide) g_111 k_91 rfl ?_
      refine x_iload_n ho 1 d_RU_init_51 rfl ?_
      refine x_aload_n ho 0 d_RU_init_52 rfl ?_
      refine x_aast ho d_RU_init_53 k_93 rfl hL_96.1 rfl (by omega) (by omega) (by omega) (rA_in (by omega) (by omega)) (fun H_99 p_100 z_101 q_102 => ?_)
      have k_103 := k_90.kept (fun q g1 g2 => q_102 q (by omega))
      have k_104 := k_91.kept (q_102 _ (by omega))
      have k_105 := k_92.kept (fun q g1 g2 => q_102 q (by omega))
      have k_106 := hL_96.kept (fun q g1 g2 => q_102 q (by omega))
      have s_107 : H_99.size = r + 8 := z_101.trans s_94
      clear k_90 k_91 k_92 k_93 hL_96 z_101 q_102 s_94
      refine x_iinc (L' := [(1, zV 2), (2, .ref (r + 6)), (0, .ref r)]) ho 1 d_RU_init_54 rfl rfl (by decide) rfl ?_
      refine x_goto (tgt := 26) ho d_RU_init_57 (by decide) ?_
      refine x_iload_n ho 0 d_RU_init_26 rfl ?_
      refine x_iconst ho d_RU_init_27 ?_
      refine x_icmp_ge (tgt := 60) ho d_RU_init_28 (by decide) (by omega) (by omega) (fun c => absurd c (by decide)) (fun _ => ?_)
      refine x_new (fs := [.null, zV 0]) ho d_RU_init_31 cl_LE g_88 g_89 g_56 (by decide +kernel) (Nat.le_of_ble_eq_true rfl) (Nat.le_of_ble_eq_true rfl) s_107 (fun H_108 p_109 z_110 q_111 => ?_)
      have k_112 := k_103.kept (fun q g1 g2 => q_111 q (by have := k_103.lt; omega))
      have k_113 := k_104.kept (q_111 _ (by have := k_104.lt; omega))
      have k_114 := k_105.kept (fun q g1 g2 => q_111 q (by have := k_105.lt; omega))
      have k_115 := k_106.kept (fun q g1 g2 => q_111 q (by have := k_106.lt; omega))
      have k_116 := p_100.kept (q_111 _ (by have := p_100.lt; omega))
      have s_117 : H_108.size = r + 9 := z_110
      clear k_103 k_104 k_105 k_106 p_100 z_110 q_111 s_107
      show X _ _ _ _ 8 28 _ _ _ [.ref (r + 8)] _
      refine x_dup ho d_RU_init_34 rfl ?_
      refine x_bipush (z := 8) ho d_RU_init_35 (by decide) ?_
      refine x_callI (rest := [.ref (r + 8)]) ho d_RU_init_37 yv_LE_init rfl g_91 g_90 (c_LE_init M.2.1 D (r + 8) ) rfl rfl ⟨Nat.le_of_ble_eq_true rfl, Nat.le_of_ble_eq_true rfl⟩ ⟨Nat.le_of_ble_eq_true rfl, Nat.le_of_ble_eq_true rfl⟩ rfl rfl (Nat.le_of_ble_eq_true rfl) ⟨p_109, (show H_108.size = (r + 8) + 1 by omega)⟩ (rA_sub (by omega) (by omega)) (fun v_118 H_120 hv_118 f_119 => ?_)
      have k_121 := k_112.kept (fun q g1 g2 => f_119.2 q (by have := k_112.lt; omega) (rA_no (by omega)))
      have k_122 := k_113.kept (f_119.2 _ k_113.lt (rA_no (by omega)))
      have k_123 := k_114.kept (fun q g1 g2 => f_119.2 q (by have := k_114.lt; omega) (rA_no (by omega)))
      have k_124 := k_115.kept (fun q g1 g2 => f_119.2 q (by have := k_115.lt; omega) (rA_no (by omega)))
      have k_125 := k_116.kept (f_119.2 _ k_116.lt (rA_no (by omega)))
      have s_126 : H_120.size = r + 10 := by have := f_119.1; omega
      clear k_112 k_113 k_114 k_115 k_116 p_109 s_117 f_119
      obtain ⟨rfl, t_n_127⟩ := hv_118
      show X _ _ _ _ 9 36 _ _ _ [.ref (r + 8)] _
      refine x_astore_n (L' := [(2, .ref (r + 8)), (1, zV 2), (0, .ref r)]) ho d_RU_init_40 (by decide) rfl ?_
      refine x_aload_n ho 0 d_RU_init_41 rfl ?_
      refine x_iload_n ho 1 d_RU_init_42 rfl ?_
      refine x_callV (rest := []) ho d_RU_init_43 yv_LE_add g_106 g_107 g_105 (c_LE_add M.2.1 D (r + 8) 8 ([]) 2 (by omega)) rfl rfl ⟨Nat.le_of_ble_eq_true rfl, Nat.le_of_ble_eq_true rfl⟩ ⟨Nat.le_of_ble_eq_true rfl, Nat.le_of_ble_eq_true rfl⟩ rfl rfl (Nat.le_of_ble_eq_true rfl) t_n_127.1 rfl rfl t_n_127 (rA_sub (by omega) (by omega)) (fun v_128 H_130 hv_128 f_129 => ?_)
      have k_131 := k_121.kept (fun q g1 g2 => f_129.2 q (by have := k_121.lt; omega) (rA_no (by omega)))
      have k_132 := k_122.kept (f_129.2 _ k_122.lt (rA_no (by omega)))
      have k_133 := k_123.kept (fun q g1 g2 => f_129.2 q (by have := k_123.lt; omega) (rA_no (by omega)))
      have k_134 := k_124.kept (fun q g1 g2 => f_129.2 q (by have := k_124.lt; omega) (rA_no (by omega)))
      have k_135 := k_125.kept (f_129.2 _ k_125.lt (rA_no (by omega)))
      have s_136 : H_130.size = r + 10 := by have := f_129.1; omega
      clear k_121 k_122 k_123 k_124 k_125 t_n_127 s_126 f_129
      rcases hv_128 with ⟨rfl, hp_137, hL_138⟩ | ⟨rfl, hp_139, hL_140⟩
      ·
        show X _ _ _ _ _ _ _ _ _ [zV 1] _
        refine x_pop ho d_RU_init_46 rfl ?_
        refine x_aload_n ho 2 d_RU_init_47 rfl ?_
        refine x_get 0 ho d_RU_init_48 cl_RU (by decide) g_111 k_132 rfl ?_
        refine x_iload_n ho 1 d_RU_init_51 rfl ?_
        refine x_aload_n ho 0 d_RU_init_52 rfl ?_
        refine x_aast ho d_RU_init_53 k_135 rfl hL_138.1 rfl (by omega) (by omega) (by omega) (rA_in (by omega) (by omega)) (fun H_141 p_142 z_143 q_144 => ?_)
        have k_145 := k_131.kept (fun q g1 g2 => q_144 q (by omega))
        have k_146 := k_132.kept (q_144 _ (by omega))
        have k_147 := k_133.kept (fun q g1 g2 => q_144 q (by omega))
        have k_148 := k_134.kept (fun q g1 g2 => q_144 q (by omega))
        have k_149 := hL_138.kept (fun q g1 g2 => q_144 q (by omega))
        have s_150 : H_141.size = r + 10 := z_143.trans s_136
        clear k_131 k_132 k_133 k_134 k_135 hL_138 z_143 q_144 s_136
        refine x_iinc (L' := [(1, zV 3), (2, .ref (r + 8)), (0, .ref r)]) ho 1 d_RU_init_54 rfl rfl (by decide) rfl ?_
        refine x_goto (tgt := 26) ho d_RU_init_57 (by decide) ?_
        refine x_iload_n ho 0 d_RU_init_26 rfl ?_
        refine x_iconst ho d_RU_init_27 ?_
        refine x_icmp_ge (tgt := 60) ho d_RU_init_28 (by decide) (by omega) (by omega) (fun c => absurd c (by decide)) (fun _ => ?_)
        refine x_new (fs := [.null, zV 0]) ho d_RU_init_31 cl_LE g_88 g_89 g_56 (by decide +kernel) (Nat.le_of_ble_eq_true rfl) (Nat.le_of_ble_eq_true rfl) s_150 (fun H_151 p_152 z_153 q_154 => ?_)
        have k_155 := k_145.kept (fun q g1 g2 => q_154 q (by have := k_145.lt; omega))
        have k_156 := k_146.kept (q_154 _ (by have := k_146.lt; omega))
        have k_157 := k_147.kept (fun q g1 g2 => q_154 q (by have := k_147.lt; omega))
        have k_158 := k_148.kept (fun q g1 g2 => q_154 q (by have := k_148.lt; omega))
        have k_159 := k_149.kept (fun q g1 g2 => q_154 q (by have := k_149.lt; omega))
        have k_160 := p_142.kept (q_154 _ (by have := p_142.lt; omega))
        have s_161 : H_151.size = r + 11 := z_153
        clear k_145 k_146 k_147 k_148 k_149 p_142 z_153 q_154 s_150
        show X _ _ _ _ 10 38 _ _ _ [.ref (r + 10)] _
        refine x_dup ho d_RU_init_34 rfl ?_
        refine x_bipush (z := 8) ho d_RU_init_35 (by decide) ?_
        refine x_callI (rest := [.ref (r + 10)]) ho d_RU_init_37 yv_LE_init rfl g_91 g_90 (c_LE_init M.2.1 D (r + 10) ) rfl rfl ⟨Nat.le_of_ble_eq_true rfl, Nat.le_of_ble_eq_true rfl⟩ ⟨Nat.le_of_ble_eq_true rfl, Nat.le_of_ble_eq_true rfl⟩ rfl rfl (Nat.le_of_ble_eq_true rfl) ⟨p_152, (show H_151.size = (r + 10) + 1 by omega)⟩ (rA_sub (by omega) (by omega)) (fun v_162 H_164 hv_162 f_163 => ?_)
        have k_165 := k_155.kept (fun q g1 g2 => f_163.2 q (by have := k_155.lt; omega) (rA_no (by omega)))
        have k_166 := k_156.kept (f_163.2 _ k_156.lt (rA_no (by omega)))
        have k_167 := k_157.kept (fun q g1 g2 => f_163.2 q (by have := k_157.lt; omega) (rA_no (by omega)))
        have k_168 := k_158.kept (fun q g1 g2 => f_163.2 q (by have := k_158.lt; omega) (rA_no (by omega)))
        have k_169 := k_159.kept (fun q g1 g2 => f_163.2 q (by have := k_159.lt; omega) (rA_no (by omega)))
        have k_170 := k_160.kept (f_163.2 _ k_160.lt (rA_no (by omega)))
        have s_171 : H_164.size = r + 12 := by have := f_163.1; omega
        clear k_155 k_156 k_157 k_158 k_159 k_160 p_152 s_161 f_163
        obtain ⟨rfl, t_n_172⟩ := hv_162
        show X _ _ _ _ 11 46 _ _ _ [.ref (r + 10)] _
        refine x_astore_n (L' := [(2, .ref (r + 10)), (1, zV 3), (0, .ref r)]) ho d_RU_init_40 (by decide) rfl ?_
        refine x_aload_n ho 0 d_RU_init_41 rfl ?_
        refine x_iload_n ho 1 d_RU_init_42 rfl ?_
        refine x_callV (rest := []) ho d_RU_init_43 yv_LE_add g_106 g_107 g_105 (c_LE_add M.2.1 D (r + 10) 8 ([]) 3 (by omega)) rfl rfl ⟨Nat.le_of_ble_eq_true rfl, Nat.le_of_ble_eq_true rfl⟩ ⟨Nat.le_of_ble_eq_true rfl, Nat.le_of_ble_eq_true rfl⟩ rfl rfl (Nat.le_of_ble_eq_true rfl) t_n_172.1 rfl rfl t_n_172 (rA_sub (by omega) (by omega)) (fun v_173 H_175 hv_173 f_174 => ?_)
        have k_176 := k_165.kept (fun q g1 g2 => f_174.2 q (by have := k_165.lt; omega) (rA_no (by omega)))
        have k_177 := k_166.kept (f_174.2 _ k_166.lt (rA_no (by omega)))
        have k_178 := k_167.kept (fun q g1 g2 => f_174.2 q (by have := k_167.lt; omega) (rA_no (by omega)))
        have k_179 := k_168.kept (fun q g1 g2 => f_174.2 q (by have := k_168.lt; omega) (rA_no (by omega)))
        have k_180 := k_169.kept (fun q g1 g2 => f_174.2 q (by have := k_169.lt; omega) (rA_no (by omega)))
        have k_181 := k_170.kept (f_174.2 _ k_170.lt (rA_no (by omega)))
        have s_182 : H_175.size = r + 12 := by have := f_174.1; omega
        clear k_165 k_166 k_167 k_168 k_169 k_170 t_n_172 s_171 f_174
        rcases hv_173 with ⟨rfl, hp_183, hL_184⟩ | ⟨rfl, hp_185, hL_186⟩
        ·
          show X _ _ _ _ _ _ _ _ _ [zV 1] _
          refine x_pop ho d_RU_init_46 rfl ?_
          refine x_aload_n ho 2 d_RU_init_47 rfl ?_
          refine x_get 0 ho d_RU_init_48 cl_RU (by decide) g_111 k_177 rfl ?_
          refine x_iload_n ho 1 d_RU_init_51 rfl ?_
          refine x_aload_n ho 0 d_RU_init_52 rfl ?_
          refine x_aast ho d_RU_init_53 k_181 rfl hL_184.1 rfl (by omega) (by omega) (by omega) (rA_in (by omega) (by omega)) (fun H_187 p_188 z_189 q_190 => ?_)
          have k_191 := k_176.kept (fun q g1 g2 => q_190 q (by omega))
          have k_192 := k_177.kept (q_190 _ (by omega))
          have k_193 := k_178.kept (fun q g1 g2 => q_190 q (by omega))
          have k_194 := k_179.kept (fun q g1 g2 => q_190 q (by omega))
          have k_195 := k_180.kept (fun q g1 g2 => q_190 q (by omega))
          have k_196 := hL_184.kept (fun q g1 g2 => q_190 q (by omega))
          have s_197 : H_187.size = r + 12 := z_189.trans s_182
          clear k_176 k_177 k_178 k_179 k_180 k_181 hL_184 z_189 q_190 s_182
          refine x_iinc (L' := [(1, zV 4), (2, .ref (r + 10)), (0, .ref r)]) ho 1 d_RU_init_54 rfl rfl (by decide) rfl ?_
          refine x_goto (tgt := 26) ho d_RU_init_57 (by decide) ?_
          refine x_iload_n ho 0 d_RU_init_26 rfl ?_
          refine x_iconst ho d_RU_init_27 ?_
          refine x_icmp_ge (tgt := 60) ho d_RU_init_28 (by decide) (by omega) (by omega) (fun _ => ?_) (fun c => absurd c (by decide))
          refine x_vret ho hr d_RU_init_60 ?_
          exact ⟨rfl, isR_new k_192 p_188 (in4 rfl rfl rfl rfl) k_191 k_193 k_194 k_195 k_196⟩
        ·
          exact absurd (by decide) hp_185
      ·
        exact absurd (by decide) hp_139
    ·
      exact absurd (by decide) hp_97
  ·
    exact absurd (by decide) hp_59
def q_ST_init (D : GG) (s : Nat) : Option Value → Heap → Prop := fun v0 H => v0 = none ∧ isS D H s sv0
theorem yv_ST_init : Yv y_ST_init b_ST_init 1 (Option.none : Option FieldType) 0 := ⟨g_80, g_54, by decide, by decide +kernel⟩
set_option maxHeartbeats 4000000 in
set_option maxRecDepth 100000 in
theorem c_ST_init (l0 : Launch) (D : GG) (s : Nat)  : Ct l0 D y_ST_init b_ST_init 1 (Option.none : Option FieldType) ({ frames := 3, cells := 16, slots := 372, locals := 64 } : Room) [.ref s] (fun H => At D H s (oO 8 [.null, .null, .null]) ∧ H.size = s + 1) (rA s (s + 17)) 16 372 (q_ST_init D s) := by
  refine Ct.of (L := [(0, .ref s)]) (by decide) (Nat.le_of_ble_eq_true rfl) rfl (fun M H ho hr hnm hH hpre => ?_)
  obtain ⟨t_o, t_z⟩ := hpre
  refine x_aload_n ho 0 d_ST_init_0 rfl ?_
  refine x_oinit ho d_ST_init_1 g_81 (Nat.le_of_ble_eq_true rfl) (Nat.le_of_ble_eq_true rfl) ?_
  refine x_aload_n ho 0 d_ST_init_4 rfl ?_
  refine x_new (fs := [.null, .null]) ho d_ST_init_5 cl_RU g_82 g_83 g_55 (by decide +kernel) (Nat.le_of_ble_eq_true rfl) (Nat.le_of_ble_eq_true rfl) t_z (fun H_1 p_2 z_3 q_4 => ?_)
  have k_5 := t_o.kept (q_4 _ (by have := t_o.lt; omega))
  have s_6 : H_1.size = s + 2 := z_3
  clear t_o z_3 q_4 t_z
  show X _ _ _ _ 1 2 _ _ _ [.ref (s + 1), .ref s] _
  refine x_dup ho d_ST_init_8 rfl ?_
  refine x_callI (rest := [.ref (s + 1), .ref s]) ho d_ST_init_9 yv_RU_init rfl g_85 g_84 (c_RU_init M.2.1 D (s + 1) ) rfl rfl ⟨Nat.le_of_ble_eq_true rfl, Nat.le_of_ble_eq_true rfl⟩ ⟨Nat.le_of_ble_eq_true rfl, Nat.le_of_ble_eq_true rfl⟩ rfl rfl (Nat.le_of_ble_eq_true rfl) ⟨p_2, (show H_1.size = (s + 1) + 1 by omega)⟩ (rA_sub (by omega) (by omega)) (fun v_7 H_9 hv_7 f_8 => ?_)
  have k_10 := k_5.kept (f_8.2 _ k_5.lt (rA_no (by omega)))
  have s_11 : H_9.size = s + 13 := by have := f_8.1; omega
  clear k_5 p_2 s_6 f_8
  obtain ⟨rfl, t_n_12⟩ := hv_7
  show X _ _ _ _ 12 48 _ _ _ [.ref (s + 1), .ref s] _
  refine x_putF 0 ho hnm d_ST_init_12 cl_ST (by decide) g_121 k_10 rfl rfl rfl rfl (Nat.le_of_ble_eq_true rfl) (rA_in (by omega) (by omega)) (fun H_13 p_14 z_15 q_16 => ?_)
  have k_17 := t_n_12.kept (fun q g1 g2 => q_16 q (by omega))
  have s_18 : H_13.size = s + 13 := z_15.trans s_11
  clear k_10 t_n_12 z_15 q_16 s_11
  refine x_aload_n ho 0 d_ST_init_15 rfl ?_
  refine x_new (fs := [.null, zV 0]) ho d_ST_init_16 cl_LE g_118 g_89 g_56 (by decide +kernel) (Nat.le_of_ble_eq_true rfl) (Nat.le_of_ble_eq_true rfl) s_18 (fun H_19 p_20 z_21 q_22 => ?_)
  have k_23 := k_17.kept (fun q g1 g2 => q_22 q (by have := k_17.lt; omega))
  have k_24 := p_14.kept (q_22 _ (by have := p_14.lt; omega))
  have s_25 : H_19.size = s + 14 := z_21
  clear k_17 p_14 z_21 q_22 s_18
  show X _ _ _ _ 13 50 _ _ _ [.ref (s + 13), .ref s] _
  refine x_dup ho d_ST_init_19 rfl ?_
  refine x_sipush (z := 300) ho d_ST_init_20 (by decide) ?_
  refine x_callI (rest := [.ref (s + 13), .ref s]) ho d_ST_init_23 yv_LE_init rfl g_91 g_119 (c_LE_init_300 M.2.1 D (s + 13) ) rfl rfl ⟨Nat.le_of_ble_eq_true rfl, Nat.le_of_ble_eq_true rfl⟩ ⟨Nat.le_of_ble_eq_true rfl, Nat.le_of_ble_eq_true rfl⟩ rfl rfl (Nat.le_of_ble_eq_true rfl) ⟨p_20, (show H_19.size = (s + 13) + 1 by omega)⟩ (rA_sub (by omega) (by omega)) (fun v_26 H_28 hv_26 f_27 => ?_)
  have k_29 := k_23.kept (fun q g1 g2 => f_27.2 q (by have := k_23.lt; omega) (rA_no (by omega)))
  have k_30 := k_24.kept (f_27.2 _ k_24.lt (rA_no (by omega)))
  have s_31 : H_28.size = s + 15 := by have := f_27.1; omega
  clear k_23 k_24 p_20 s_25 f_27
  obtain ⟨rfl, t_n_32⟩ := hv_26
  show X _ _ _ _ 14 350 _ _ _ [.ref (s + 13), .ref s] _
  refine x_putF 1 ho hnm d_ST_init_26 cl_ST (by decide) g_123 k_30 rfl rfl rfl rfl (Nat.le_of_ble_eq_true rfl) (rA_in (by omega) (by omega)) (fun H_33 p_34 z_35 q_36 => ?_)
  have k_37 := k_29.kept (fun q g1 g2 => q_36 q (by omega))
  have k_38 := t_n_32.kept (fun q g1 g2 => q_36 q (by omega))
  have s_39 : H_33.size = s + 15 := z_35.trans s_31
  clear k_29 k_30 t_n_32 z_35 q_36 s_31
  refine x_aload_n ho 0 d_ST_init_29 rfl ?_
  refine x_new (fs := [.null, zV 0]) ho d_ST_init_30 cl_LE g_118 g_89 g_56 (by decide +kernel) (Nat.le_of_ble_eq_true rfl) (Nat.le_of_ble_eq_true rfl) s_39 (fun H_40 p_41 z_42 q_43 => ?_)
  have k_44 := k_37.kept (fun q g1 g2 => q_43 q (by have := k_37.lt; omega))
  have k_45 := k_38.kept (fun q g1 g2 => q_43 q (by have := k_38.lt; omega))
  have k_46 := p_34.kept (q_43 _ (by have := p_34.lt; omega))
  have s_47 : H_40.size = s + 16 := z_42
  clear k_37 k_38 p_34 z_42 q_43 s_39
  show X _ _ _ _ 15 352 _ _ _ [.ref (s + 15), .ref s] _
  refine x_dup ho d_ST_init_33 rfl ?_
  refine x_bipush (z := 20) ho d_ST_init_34 (by decide) ?_
  refine x_callI (rest := [.ref (s + 15), .ref s]) ho d_ST_init_36 yv_LE_init rfl g_91 g_119 (c_LE_init_20 M.2.1 D (s + 15) ) rfl rfl ⟨Nat.le_of_ble_eq_true rfl, Nat.le_of_ble_eq_true rfl⟩ ⟨Nat.le_of_ble_eq_true rfl, Nat.le_of_ble_eq_true rfl⟩ rfl rfl (Nat.le_of_ble_eq_true rfl) ⟨p_41, (show H_40.size = (s + 15) + 1 by omega)⟩ (rA_sub (by omega) (by omega)) (fun v_48 H_50 hv_48 f_49 => ?_)
  have k_51 := k_44.kept (fun q g1 g2 => f_49.2 q (by have := k_44.lt; omega) (rA_no (by omega)))
  have k_52 := k_45.kept (fun q g1 g2 => f_49.2 q (by have := k_45.lt; omega) (rA_no (by omega)))
  have k_53 := k_46.kept (f_49.2 _ k_46.lt (rA_no (by omega)))
  have s_54 : H_50.size = s + 17 := by have := f_49.1; omega
  clear k_44 k_45 k_46 p_41 s_47 f_49
  obtain ⟨rfl, t_n_55⟩ := hv_48
  show X _ _ _ _ 16 372 _ _ _ [.ref (s + 15), .ref s] _
  refine x_putF 2 ho hnm d_ST_init_39 cl_ST (by decide) g_125 k_53 rfl rfl rfl rfl (Nat.le_of_ble_eq_true rfl) (rA_in (by omega) (by omega)) (fun H_56 p_57 z_58 q_59 => ?_)
  have k_60 := k_51.kept (fun q g1 g2 => q_59 q (by omega))
  have k_61 := k_52.kept (fun q g1 g2 => q_59 q (by omega))
  have k_62 := t_n_55.kept (fun q g1 g2 => q_59 q (by omega))
  have s_63 : H_56.size = s + 17 := z_58.trans s_54
  clear k_51 k_52 k_53 t_n_55 z_58 q_59 s_54
  refine x_aload_n ho 0 d_ST_init_42 rfl ?_
  refine x_get 1 ho d_ST_init_43 cl_ST (by decide) g_123 p_57 rfl ?_
  refine x_iconst ho d_ST_init_46 ?_
  refine x_callV (rest := []) ho d_ST_init_47 yv_LE_add g_106 g_107 g_120 (c_LE_add M.2.1 D (s + 13) 300 ([]) 0 (by omega)) rfl rfl ⟨Nat.le_of_ble_eq_true rfl, Nat.le_of_ble_eq_true rfl⟩ ⟨Nat.le_of_ble_eq_true rfl, Nat.le_of_ble_eq_true rfl⟩ rfl rfl (Nat.le_of_ble_eq_true rfl) k_61.1 rfl rfl k_61 (rA_sub (by omega) (by omega)) (fun v_64 H_66 hv_64 f_65 => ?_)
  have k_67 := k_60.kept (fun q g1 g2 => f_65.2 q (by have := k_60.lt; omega) (rA_no (by omega)))
  have k_68 := k_62.kept (fun q g1 g2 => f_65.2 q (by have := k_62.lt; omega) (rA_no (by omega)))
  have k_69 := p_57.kept (f_65.2 _ p_57.lt (rA_no (by omega)))
  have s_70 : H_66.size = s + 17 := by have := f_65.1; omega
  clear k_60 k_61 k_62 p_57 s_63 f_65
  rcases hv_64 with ⟨rfl, hp_71, hL_72⟩ | ⟨rfl, hp_73, hL_74⟩
  ·
    show X _ _ _ _ _ _ _ _ _ [zV 1] _
    refine x_pop ho d_ST_init_50 rfl ?_
    refine x_vret ho hr d_ST_init_51 ?_
    exact ⟨rfl, k_69, ⟨_, k_67⟩, hL_72, k_68⟩
  ·
    exact absurd (by decide) hp_73
def q_HI_init (D : GG) (h : Nat) : Option Value → Heap → Prop := fun v0 H => v0 = none ∧ isHL D H h ([])
theorem yv_HI_init : Yv y_HI_init b_HI_init 2 (Option.none : Option FieldType) 0 := ⟨g_138, g_58, by decide, by decide +kernel⟩
set_option maxHeartbeats 4000000 in
set_option maxRecDepth 100000 in
theorem c_HI_init (l0 : Launch) (D : GG) (h : Nat)  : Ct l0 D y_HI_init b_HI_init 2 (Option.none : Option FieldType) ({ frames := 4, cells := 69, slots := 1504, locals := 84 } : Room) [.ref h] (fun H => At D H h (oO 1 [.null, zV 0]) ∧ H.size = h + 1) (rA h (h + 70)) 69 1504 (q_HI_init D h) := by
  refine Ct.of (L := [(0, .ref h)]) (by decide) (Nat.le_of_ble_eq_true rfl) rfl (fun M H ho hr hnm hH hpre => ?_)
  obtain ⟨t_o, t_z⟩ := hpre
  refine x_aload_n ho 0 d_HI_init_0 rfl ?_
  refine x_oinit ho d_HI_init_1 g_139 (Nat.le_of_ble_eq_true rfl) (Nat.le_of_ble_eq_true rfl) ?_
  refine x_aload_n ho 0 d_HI_init_4 rfl ?_
  refine x_iconst ho d_HI_init_5 ?_
  refine x_newR (k := 4) (n := 4) (z := 4) ho d_HI_init_6 g_140 (fun q => q.2.2.2) rfl rfl (by decide) (Nat.le_of_ble_eq_true rfl) (Nat.le_of_ble_eq_true rfl) t_z (fun H_1 p_2 z_3 q_4 => ?_)
  have k_5 := t_o.kept (q_4 _ (by have := t_o.lt; omega))
  have s_6 : H_1.size = h + 2 := z_3
  clear t_o z_3 q_4 t_z
  show X _ _ _ _ 1 4 _ _ _ [.ref (h + 1), .ref h] _
  refine x_putF 0 ho hnm d_HI_init_9 cl_HI (by decide) g_142 k_5 rfl rfl rfl rfl (Nat.le_of_ble_eq_true rfl) (rA_in (by omega) (by omega)) (fun H_7 p_8 z_9 q_10 => ?_)
  have k_11 := p_2.kept (q_10 _ (by omega))
  have s_12 : H_7.size = h + 2 := z_9.trans s_6
  clear k_5 p_2 z_9 q_10 s_6
  refine x_aload_n ho 0 d_HI_init_12 rfl ?_
  refine x_iconst ho d_HI_init_13 ?_
  refine x_put 1 ho d_HI_init_14 cl_HI (by decide) g_143 p_8 rfl rfl rfl (Nat.le_of_ble_eq_true rfl) (rA_in (by omega) (by omega)) (fun H_13 p_14 z_15 q_16 => ?_)
  have k_17 := k_11.kept (q_16 _ (by omega))
  have s_18 : H_13.size = h + 2 := z_15.trans s_12
  clear k_11 p_8 z_15 q_16 s_12
  refine x_iconst ho d_HI_init_17 ?_
  refine x_istore_n (L' := [(1, zV 0), (0, .ref h)]) ho d_HI_init_18 (by decide) rfl ?_
  refine x_iload_n ho 0 d_HI_init_19 rfl ?_
  refine x_iconst ho d_HI_init_20 ?_
  refine x_icmp_ge (tgt := 43) ho d_HI_init_21 (by decide) (by omega) (by omega) (fun c => absurd c (by decide)) (fun _ => ?_)
  refine x_aload_n ho 1 d_HI_init_24 rfl ?_
  refine x_get 0 ho d_HI_init_25 cl_HI (by decide) g_142 p_14 rfl ?_
  refine x_iload_n ho 0 d_HI_init_28 rfl ?_
  refine x_new (fs := [.null, .null, .null]) ho d_HI_init_29 cl_ST g_140 g_77 g_54 (by decide +kernel) (Nat.le_of_ble_eq_true rfl) (Nat.le_of_ble_eq_true rfl) s_18 (fun H_19 p_20 z_21 q_22 => ?_)
  have k_23 := k_17.kept (q_22 _ (by have := k_17.lt; omega))
  have k_24 := p_14.kept (q_22 _ (by have := p_14.lt; omega))
  have s_25 : H_19.size = h + 3 := z_21
  clear k_17 p_14 z_21 q_22 s_18
  show X _ _ _ _ 2 7 _ _ _ [.ref (h + 2), zV 0, .ref (h + 1)] _
  refine x_dup ho d_HI_init_32 rfl ?_
  refine x_callI (rest := [.ref (h + 2), zV 0, .ref (h + 1)]) ho d_HI_init_33 yv_ST_init rfl g_79 g_141 (c_ST_init M.2.1 D (h + 2) ) rfl rfl ⟨Nat.le_of_ble_eq_true rfl, Nat.le_of_ble_eq_true rfl⟩ ⟨Nat.le_of_ble_eq_true rfl, Nat.le_of_ble_eq_true rfl⟩ rfl rfl (Nat.le_of_ble_eq_true rfl) ⟨p_20, (show H_19.size = (h + 2) + 1 by omega)⟩ (rA_sub (by omega) (by omega)) (fun v_26 H_28 hv_26 f_27 => ?_)
  have k_29 := k_23.kept (f_27.2 _ k_23.lt (rA_no (by omega)))
  have k_30 := k_24.kept (f_27.2 _ k_24.lt (rA_no (by omega)))
  have s_31 : H_28.size = h + 19 := by have := f_27.1; omega
  clear k_23 k_24 p_20 s_25 f_27
  obtain ⟨rfl, t_n_32⟩ := hv_26
  show X _ _ _ _ 18 379 _ _ _ [.ref (h + 2), zV 0, .ref (h + 1)] _
  refine x_aast ho d_HI_init_36 k_29 rfl t_n_32.1 rfl (by omega) (by omega) (by omega) (rA_in (by omega) (by omega)) (fun H_33 p_34 z_35 q_36 => ?_)
  have k_37 := k_30.kept (q_36 _ (by omega))
  have k_38 := t_n_32.kept (fun q g1 g2 => q_36 q (by omega))
  have s_39 : H_33.size = h + 19 := z_35.trans s_31
  clear k_29 k_30 t_n_32 z_35 q_36 s_31
  refine x_iinc (L' := [(1, zV 1), (0, .ref h)]) ho 0 d_HI_init_37 rfl rfl (by decide) rfl ?_
  refine x_goto (tgt := 19) ho d_HI_init_40 (by decide) ?_
  refine x_iload_n ho 0 d_HI_init_19 rfl ?_
  refine x_iconst ho d_HI_init_20 ?_
  refine x_icmp_ge (tgt := 43) ho d_HI_init_21 (by decide) (by omega) (by omega) (fun c => absurd c (by decide)) (fun _ => ?_)
  refine x_aload_n ho 1 d_HI_init_24 rfl ?_
  refine x_get 0 ho d_HI_init_25 cl_HI (by decide) g_142 k_37 rfl ?_
  refine x_iload_n ho 0 d_HI_init_28 rfl ?_
  refine x_new (fs := [.null, .null, .null]) ho d_HI_init_29 cl_ST g_140 g_77 g_54 (by decide +kernel) (Nat.le_of_ble_eq_true rfl) (Nat.le_of_ble_eq_true rfl) s_39 (fun H_40 p_41 z_42 q_43 => ?_)
  have k_44 := k_37.kept (q_43 _ (by have := k_37.lt; omega))
  have k_45 := k_38.kept (fun q g1 g2 => q_43 q (by have := k_38.lt; omega))
  have k_46 := p_34.kept (q_43 _ (by have := p_34.lt; omega))
  have s_47 : H_40.size = h + 20 := z_42
  clear k_37 k_38 p_34 z_42 q_43 s_39
  show X _ _ _ _ 19 382 _ _ _ [.ref (h + 19), zV 1, .ref (h + 1)] _
  refine x_dup ho d_HI_init_32 rfl ?_
  refine x_callI (rest := [.ref (h + 19), zV 1, .ref (h + 1)]) ho d_HI_init_33 yv_ST_init rfl g_79 g_141 (c_ST_init M.2.1 D (h + 19) ) rfl rfl ⟨Nat.le_of_ble_eq_true rfl, Nat.le_of_ble_eq_true rfl⟩ ⟨Nat.le_of_ble_eq_true rfl, Nat.le_of_ble_eq_true rfl⟩ rfl rfl (Nat.le_of_ble_eq_true rfl) ⟨p_41, (show H_40.size = (h + 19) + 1 by omega)⟩ (rA_sub (by omega) (by omega)) (fun v_48 H_50 hv_48 f_49 => ?_)
  have k_51 := k_44.kept (f_49.2 _ k_44.lt (rA_no (by omega)))
  have k_52 := k_45.kept (fun q g1 g2 => f_49.2 q (by have := k_45.lt; omega) (rA_no (by omega)))
  have k_53 := k_46.kept (f_49.2 _ k_46.lt (rA_no (by omega)))
  have s_54 : H_50.size = h + 36 := by have := f_49.1; omega
  clear k_44 k_45 k_46 p_41 s_47 f_49
  obtain ⟨rfl, t_n_55⟩ := hv_48
  show X _ _ _ _ 35 754 _ _ _ [.ref (h + 19), zV 1, .ref (h + 1)] _
  refine x_aast ho d_HI_init_36 k_53 rfl t_n_55.1 rfl (by omega) (by omega) (by omega) (rA_in (by omega) (by omega)) (fun H_56 p_57 z_58 q_59 => ?_)
  have k_60 := k_51.kept (q_59 _ (by omega))
  have k_61 := k_52.kept (fun q g1 g2 => q_59 q (by omega))
  have k_62 := t_n_55.kept (fun q g1 g2 => q_59 q (by omega))
  have s_63 : H_56.size = h + 36 := z_58.trans s_54
  clear k_51 k_52 k_53 t_n_55 z_58 q_59 s_54
  refine x_iinc (L' := [(1, zV 2), (0, .ref h)]) ho 0 d_HI_init_37 rfl rfl (by decide) rfl ?_
  refine x_goto (tgt := 19) ho d_HI_init_40 (by decide) ?_
  refine x_iload_n ho 0 d_HI_init_19 rfl ?_
  refine x_iconst ho d_HI_init_20 ?_
  refine x_icmp_ge (tgt := 43) ho d_HI_init_21 (by decide) (by omega) (by omega) (fun c => absurd c (by decide)) (fun _ => ?_)
  refine x_aload_n ho 1 d_HI_init_24 rfl ?_
  refine x_get 0 ho d_HI_init_25 cl_HI (by decide) g_142 k_60 rfl ?_
  refine x_iload_n ho 0 d_HI_init_28 rfl ?_
  refine x_new (fs := [.null, .null, .null]) ho d_HI_init_29 cl_ST g_140 g_77 g_54 (by decide +kernel) (Nat.le_of_ble_eq_true rfl) (Nat.le_of_ble_eq_true rfl) s_63 (fun H_64 p_65 z_66 q_67 => ?_)
  have k_68 := k_60.kept (q_67 _ (by have := k_60.lt; omega))
  have k_69 := k_61.kept (fun q g1 g2 => q_67 q (by have := k_61.lt; omega))
  have k_70 := k_62.kept (fun q g1 g2 => q_67 q (by have := k_62.lt; omega))
  have k_71 := p_57.kept (q_67 _ (by have := p_57.lt; omega))
  have s_72 : H_64.size = h + 37 := z_66
  clear k_60 k_61 k_62 p_57 z_66 q_67 s_63
  show X _ _ _ _ 36 757 _ _ _ [.ref (h + 36), zV 2, .ref (h + 1)] _
  refine x_dup ho d_HI_init_32 rfl ?_
  refine x_callI (rest := [.ref (h + 36), zV 2, .ref (h + 1)]) ho d_HI_init_33 yv_ST_init rfl g_79 g_141 (c_ST_init M.2.1 D (h + 36) ) rfl rfl ⟨Nat.le_of_ble_eq_true rfl, Nat.le_of_ble_eq_true rfl⟩ ⟨Nat.le_of_ble_eq_true rfl, Nat.le_of_ble_eq_true rfl⟩ rfl rfl (Nat.le_of_ble_eq_true rfl) ⟨p_65, (show H_64.size = (h + 36) + 1 by omega)⟩ (rA_sub (by omega) (by omega)) (fun v_73 H_75 hv_73 f_74 => ?_)
  have k_76 := k_68.kept (f_74.2 _ k_68.lt (rA_no (by omega)))
  have k_77 := k_69.kept (fun q g1 g2 => f_74.2 q (by have := k_69.lt; omega) (rA_no (by omega)))
  have k_78 := k_70.kept (fun q g1 g2 => f_74.2 q (by have := k_70.lt; omega) (rA_no (by omega)))
  have k_79 := k_71.kept (f_74.2 _ k_71.lt (rA_no (by omega)))
  have s_80 : H_75.size = h + 53 := by have := f_74.1; omega
  clear k_68 k_69 k_70 k_71 p_65 s_72 f_74
  obtain ⟨rfl, t_n_81⟩ := hv_73
  show X _ _ _ _ 52 1129 _ _ _ [.ref (h + 36), zV 2, .ref (h + 1)] _
  refine x_aast ho d_HI_init_36 k_79 rfl t_n_81.1 rfl (by omega) (by omega) (by omega) (rA_in (by omega) (by omega)) (fun H_82 p_83 z_84 q_85 => ?_)
  have k_86 := k_76.kept (q_85 _ (by omega))
  have k_87 := k_77.kept (fun q g1 g2 => q_85 q (by omega))
  have k_88 := k_78.kept (fun q g1 g2 => q_85 q (by omega))
  have k_89 := t_n_81.kept (fun q g1 g2 => q_85 q (by omega))
  have s_90 : H_82.size = h + 53 := z_84.trans s_80
  clear k_76 k_77 k_78 k_79 t_n_81 z_84 q_85 s_80
  refine x_iinc (L' := [(1, zV 3), (0, .ref h)]) ho 0 d_HI_init_37 rfl rfl (by decide) rfl ?_
  refine x_goto (tgt := 19) ho d_HI_init_40 (by decide) ?_
  refine x_iload_n ho 0 d_HI_init_19 rfl ?_
  refine x_iconst ho d_HI_init_20 ?_
  refine x_icmp_ge (tgt := 43) ho d_HI_init_21 (by decide) (by omega) (by omega) (fun c => absurd c (by decide)) (fun _ => ?_)
  refine x_aload_n ho 1 d_HI_init_24 rfl ?_
  refine x_get 0 ho d_HI_init_25 cl_HI (by decide) g_142 k_86 rfl ?_
  refine x_iload_n ho 0 d_HI_init_28 rfl ?_
  refine x_new (fs := [.null, .null, .null]) ho d_HI_init_29 cl_ST g_140 g_77 g_54 (by decide +kernel) (Nat.le_of_ble_eq_true rfl) (Nat.le_of_ble_eq_true rfl) s_90 (fun H_91 p_92 z_93 q_94 => ?_)
  have k_95 := k_86.kept (q_94 _ (by have := k_86.lt; omega))
  have k_96 := k_87.kept (fun q g1 g2 => q_94 q (by have := k_87.lt; omega))
  have k_97 := k_88.kept (fun q g1 g2 => q_94 q (by have := k_88.lt; omega))
  have k_98 := k_89.kept (fun q g1 g2 => q_94 q (by have := k_89.lt; omega))
  have k_99 := p_83.kept (q_94 _ (by have := p_83.lt; omega))
  have s_100 : H_91.size = h + 54 := z_93
  clear k_86 k_87 k_88 k_89 p_83 z_93 q_94 s_90
  show X _ _ _ _ 53 1132 _ _ _ [.ref (h + 53), zV 3, .ref (h + 1)] _
  refine x_dup ho d_HI_init_32 rfl ?_
  refine x_callI (rest := [.ref (h + 53), zV 3, .ref (h + 1)]) ho d_HI_init_33 yv_ST_init rfl g_79 g_141 (c_ST_init M.2.1 D (h + 53) ) rfl rfl ⟨Nat.le_of_ble_eq_true rfl, Nat.le_of_ble_eq_true rfl⟩ ⟨Nat.le_of_ble_eq_true rfl, Nat.le_of_ble_eq_true rfl⟩ rfl rfl (Nat.le_of_ble_eq_true rfl) ⟨p_92, (show H_91.size = (h + 53) + 1 by omega)⟩ (rA_sub (by omega) (by omega)) (fun v_101 H_103 hv_101 f_102 => ?_)
  have k_104 := k_95.kept (f_102.2 _ k_95.lt (rA_no (by omega)))
  have k_105 := k_96.kept (fun q g1 g2 => f_102.2 q (by have := k_96.lt; omega) (rA_no (by omega)))
  have k_106 := k_97.kept (fun q g1 g2 => f_102.2 q (by have := k_97.lt; omega) (rA_no (by omega)))
  have k_107 := k_98.kept (fun q g1 g2 => f_102.2 q (by have := k_98.lt; omega) (rA_no (by omega)))
  have k_108 := k_99.kept (f_102.2 _ k_99.lt (rA_no (by omega)))
  have s_109 : H_103.size = h + 70 := by have := f_102.1; omega
  clear k_95 k_96 k_97 k_98 k_99 p_92 s_100 f_102
  obtain ⟨rfl, t_n_110⟩ := hv_101
  show X _ _ _ _ 69 1504 _ _ _ [.ref (h + 53), zV 3, .ref (h + 1)] _
  refine x_aast ho d_HI_init_36 k_108 rfl t_n_110.1 rfl (by omega) (by omega) (by omega) (rA_in (by omega) (by omega)) (fun H_111 p_112 z_113 q_114 => ?_)
  have k_115 := k_104.kept (q_114 _ (by omega))
  have k_116 := k_105.kept (fun q g1 g2 => q_114 q (by omega))
  have k_117 := k_106.kept (fun q g1 g2 => q_114 q (by omega))
  have k_118 := k_107.kept (fun q g1 g2 => q_114 q (by omega))
  have k_119 := t_n_110.kept (fun q g1 g2 => q_114 q (by omega))
  have s_120 : H_111.size = h + 70 := z_113.trans s_109
  clear k_104 k_105 k_106 k_107 k_108 t_n_110 z_113 q_114 s_109
  refine x_iinc (L' := [(1, zV 4), (0, .ref h)]) ho 0 d_HI_init_37 rfl rfl (by decide) rfl ?_
  refine x_goto (tgt := 19) ho d_HI_init_40 (by decide) ?_
  refine x_iload_n ho 0 d_HI_init_19 rfl ?_
  refine x_iconst ho d_HI_init_20 ?_
  refine x_icmp_ge (tgt := 43) ho d_HI_init_21 (by decide) (by omega) (by omega) (fun _ => ?_) (fun c => absurd c (by decide))
  refine x_vret ho hr d_HI_init_43 ?_
  exact ⟨rfl, isHL_new k_115 p_112 (in4 rfl rfl rfl rfl) k_116 k_117 k_118 k_119⟩
