def q_TX_init (D : GG) (o : Nat) : Option Value → Heap → Prop := fun v0 H => v0 = none ∧ isT D H o ([])
theorem yv_TX_init : Yv y_TX_init b_TX_init 1 (Option.none : Option FieldType) 0 := ⟨g_152, g_59, by decide, by decide +kernel⟩
set_option maxHeartbeats 4000000 in
set_option maxRecDepth 100000 in
theorem c_TX_init (l0 : Launch) (D : GG) (o : Nat)  : Ct l0 D y_TX_init b_TX_init 1 (Option.none : Option FieldType) ({ frames := 1, cells := 1, slots := 60, locals := 20 } : Room) [.ref o] (fun H => At D H o (oO 9 [.null, zV 0]) ∧ H.size = o + 1) (rA o (o + 2)) 1 60 (q_TX_init D o) := by
  refine Ct.of (L := [(0, .ref o)]) (by decide) (Nat.le_of_ble_eq_true rfl) rfl (fun M H ho hr hnm hH hpre => ?_)
  obtain ⟨t_o, t_z⟩ := hpre
  refine x_aload_n ho 0 d_TX_init_0 rfl ?_
  refine x_oinit ho d_TX_init_1 g_153 (Nat.le_of_ble_eq_true rfl) (Nat.le_of_ble_eq_true rfl) ?_
  refine x_aload_n ho 0 d_TX_init_4 rfl ?_
  refine x_bipush (z := 60) ho d_TX_init_5 (by decide) ?_
  refine x_newC (n := 60) (z := 60) ho d_TX_init_7 rfl (by decide) (Nat.le_of_ble_eq_true rfl) (Nat.le_of_ble_eq_true rfl) t_z (fun H_1 p_2 z_3 q_4 => ?_)
  have k_5 := t_o.kept (q_4 _ (by have := t_o.lt; omega))
  have s_6 : H_1.size = o + 2 := z_3
  clear t_o z_3 q_4 t_z
  show X _ _ _ _ 1 60 _ _ _ [.ref (o + 1), .ref o] _
  refine x_putF 0 ho hnm d_TX_init_9 cl_TX (by decide) g_154 k_5 rfl rfl rfl rfl (Nat.le_of_ble_eq_true rfl) (rA_in (by omega) (by omega)) (fun H_7 p_8 z_9 q_10 => ?_)
  have k_11 := p_2.kept (q_10 _ (by omega))
  have s_12 : H_7.size = o + 2 := z_9.trans s_6
  clear k_5 p_2 z_9 q_10 s_6
  refine x_aload_n ho 0 d_TX_init_12 rfl ?_
  refine x_iconst ho d_TX_init_13 ?_
  refine x_put 1 ho d_TX_init_14 cl_TX (by decide) g_155 p_8 rfl rfl rfl (Nat.le_of_ble_eq_true rfl) (rA_in (by omega) (by omega)) (fun H_13 p_14 z_15 q_16 => ?_)
  have k_17 := k_11.kept (q_16 _ (by omega))
  have s_18 : H_13.size = o + 2 := z_15.trans s_12
  clear k_11 p_8 z_15 q_16 s_12
  refine x_vret ho hr d_TX_init_17 ?_
  exact ⟨rfl, isT_mk p_14 k_17 rfl no0 (Nat.zero_le _) (fun _ h => (by cases h))⟩
def q_PW_init (D : GG) (o : Nat) : Option Value → Heap → Prop := fun v0 H => v0 = none ∧ isP D H o (fun _ => 0) (fun _ => 0)
theorem yv_PW_init : Yv y_PW_init b_PW_init 1 (Option.none : Option FieldType) 0 := ⟨g_169, g_60, by decide, by decide +kernel⟩
set_option maxHeartbeats 4000000 in
set_option maxRecDepth 100000 in
theorem c_PW_init (l0 : Launch) (D : GG) (o : Nat)  : Ct l0 D y_PW_init b_PW_init 1 (Option.none : Option FieldType) ({ frames := 1, cells := 2, slots := 8, locals := 20 } : Room) [.ref o] (fun H => At D H o (oO 5 [.null, .null]) ∧ H.size = o + 1) (rA o (o + 3)) 2 8 (q_PW_init D o) := by
  refine Ct.of (L := [(0, .ref o)]) (by decide) (Nat.le_of_ble_eq_true rfl) rfl (fun M H ho hr hnm hH hpre => ?_)
  obtain ⟨t_o, t_z⟩ := hpre
  refine x_aload_n ho 0 d_PW_init_0 rfl ?_
  refine x_oinit ho d_PW_init_1 g_170 (Nat.le_of_ble_eq_true rfl) (Nat.le_of_ble_eq_true rfl) ?_
  refine x_aload_n ho 0 d_PW_init_4 rfl ?_
  refine x_iconst ho d_PW_init_5 ?_
  refine x_newI (n := 4) (z := 4) ho d_PW_init_6 rfl (by decide) (Nat.le_of_ble_eq_true rfl) (Nat.le_of_ble_eq_true rfl) t_z (fun H_1 p_2 z_3 q_4 => ?_)
  have k_5 := t_o.kept (q_4 _ (by have := t_o.lt; omega))
  have s_6 : H_1.size = o + 2 := z_3
  clear t_o z_3 q_4 t_z
  show X _ _ _ _ 1 4 _ _ _ [.ref (o + 1), .ref o] _
  refine x_putF 0 ho hnm d_PW_init_8 cl_PW (by decide) g_171 k_5 rfl rfl rfl rfl (Nat.le_of_ble_eq_true rfl) (rA_in (by omega) (by omega)) (fun H_7 p_8 z_9 q_10 => ?_)
  have k_11 := p_2.kept (q_10 _ (by omega))
  have s_12 : H_7.size = o + 2 := z_9.trans s_6
  clear k_5 p_2 z_9 q_10 s_6
  refine x_aload_n ho 0 d_PW_init_11 rfl ?_
  refine x_iconst ho d_PW_init_12 ?_
  refine x_newI (n := 4) (z := 4) ho d_PW_init_13 rfl (by decide) (Nat.le_of_ble_eq_true rfl) (Nat.le_of_ble_eq_true rfl) s_12 (fun H_13 p_14 z_15 q_16 => ?_)
  have k_17 := k_11.kept (q_16 _ (by have := k_11.lt; omega))
  have k_18 := p_8.kept (q_16 _ (by have := p_8.lt; omega))
  have s_19 : H_13.size = o + 3 := z_15
  clear k_11 p_8 z_15 q_16 s_12
  show X _ _ _ _ 2 8 _ _ _ [.ref (o + 2), .ref o] _
  refine x_putF 1 ho hnm d_PW_init_15 cl_PW (by decide) g_172 k_18 rfl rfl rfl rfl (Nat.le_of_ble_eq_true rfl) (rA_in (by omega) (by omega)) (fun H_20 p_21 z_22 q_23 => ?_)
  have k_24 := k_17.kept (q_23 _ (by omega))
  have k_25 := p_14.kept (q_23 _ (by omega))
  have s_26 : H_20.size = o + 3 := z_22.trans s_19
  clear k_17 k_18 p_14 z_22 q_23 s_19
  refine x_vret ho hr d_PW_init_18 ?_
  exact ⟨rfl, p_21, k_24, k_25⟩
def q_PT_init (D : GG) (o : Nat) : Option Value → Heap → Prop := fun v0 H => v0 = none ∧ isPT D H o 0 (fun _ => 0)
theorem yv_PT_init : Yv y_PT_init b_PT_init 1 (Option.none : Option FieldType) 0 := ⟨g_181, g_61, by decide, by decide +kernel⟩
set_option maxHeartbeats 4000000 in
set_option maxRecDepth 100000 in
theorem c_PT_init (l0 : Launch) (D : GG) (o : Nat)  : Ct l0 D y_PT_init b_PT_init 1 (Option.none : Option FieldType) ({ frames := 1, cells := 1, slots := 300, locals := 20 } : Room) [.ref o] (fun H => At D H o (oO 4 [.null, zV 0]) ∧ H.size = o + 1) (rA o (o + 2)) 1 300 (q_PT_init D o) := by
  refine Ct.of (L := [(0, .ref o)]) (by decide) (Nat.le_of_ble_eq_true rfl) rfl (fun M H ho hr hnm hH hpre => ?_)
  obtain ⟨t_o, t_z⟩ := hpre
  refine x_aload_n ho 0 d_PT_init_0 rfl ?_
  refine x_oinit ho d_PT_init_1 g_182 (Nat.le_of_ble_eq_true rfl) (Nat.le_of_ble_eq_true rfl) ?_
  refine x_aload_n ho 0 d_PT_init_4 rfl ?_
  refine x_sipush (z := 300) ho d_PT_init_5 (by decide) ?_
  refine x_newJ (n := 300) (z := 300) ho d_PT_init_8 rfl (by decide) (Nat.le_of_ble_eq_true rfl) (Nat.le_of_ble_eq_true rfl) t_z (fun H_1 p_2 z_3 q_4 => ?_)
  have k_5 := t_o.kept (q_4 _ (by have := t_o.lt; omega))
  have s_6 : H_1.size = o + 2 := z_3
  clear t_o z_3 q_4 t_z
  show X _ _ _ _ 1 300 _ _ _ [.ref (o + 1), .ref o] _
  refine x_putF 0 ho hnm d_PT_init_10 cl_PT (by decide) g_183 k_5 rfl rfl rfl rfl (Nat.le_of_ble_eq_true rfl) (rA_in (by omega) (by omega)) (fun H_7 p_8 z_9 q_10 => ?_)
  have k_11 := p_2.kept (q_10 _ (by omega))
  have s_12 : H_7.size = o + 2 := z_9.trans s_6
  clear k_5 p_2 z_9 q_10 s_6
  refine x_aload_n ho 0 d_PT_init_13 rfl ?_
  refine x_iconst ho d_PT_init_14 ?_
  refine x_put 1 ho d_PT_init_15 cl_PT (by decide) g_184 p_8 rfl rfl rfl (Nat.le_of_ble_eq_true rfl) (rA_in (by omega) (by omega)) (fun H_13 p_14 z_15 q_16 => ?_)
  have k_17 := k_11.kept (q_16 _ (by omega))
  have s_18 : H_13.size = o + 2 := z_15.trans s_12
  clear k_11 p_8 z_15 q_16 s_12
  refine x_vret ho hr d_PT_init_18 ?_
  exact ⟨rfl, p_14, k_17⟩
def q_GR_init (D : GG) (o : Nat) : Option Value → Heap → Prop := fun v0 H => v0 = none ∧ isG D H o 1 0 1
theorem yv_GR_init : Yv y_GR_init b_GR_init 1 (Option.none : Option FieldType) 0 := ⟨g_194, g_62, by decide, by decide +kernel⟩
set_option maxHeartbeats 4000000 in
set_option maxRecDepth 100000 in
theorem c_GR_init (l0 : Launch) (D : GG) (o : Nat)  : Ct l0 D y_GR_init b_GR_init 1 (Option.none : Option FieldType) ({ frames := 1, cells := 0, slots := 0, locals := 20 } : Room) [.ref o] (fun H => At D H o (oO 0 [zV 0, zV 0, zV 0]) ∧ H.size = o + 1) (rA o (o + 1)) 0 0 (q_GR_init D o) := by
  refine Ct.of (L := [(0, .ref o)]) (by decide) (Nat.le_of_ble_eq_true rfl) rfl (fun M H ho hr hnm hH hpre => ?_)
  obtain ⟨t_o, t_z⟩ := hpre
  refine x_aload_n ho 0 d_GR_init_0 rfl ?_
  refine x_oinit ho d_GR_init_1 g_195 (Nat.le_of_ble_eq_true rfl) (Nat.le_of_ble_eq_true rfl) ?_
  refine x_aload_n ho 0 d_GR_init_4 rfl ?_
  refine x_iconst ho d_GR_init_5 ?_
  refine x_put 0 ho d_GR_init_6 cl_GR (by decide) g_196 t_o rfl rfl rfl (Nat.le_of_ble_eq_true rfl) (rA_in (by omega) (by omega)) (fun H_1 p_2 z_3 q_4 => ?_)
  have s_5 : H_1.size = o + 1 := z_3.trans t_z
  clear t_o z_3 q_4 t_z
  refine x_aload_n ho 0 d_GR_init_9 rfl ?_
  refine x_iconst ho d_GR_init_10 ?_
  refine x_put 1 ho d_GR_init_11 cl_GR (by decide) g_197 p_2 rfl rfl rfl (Nat.le_of_ble_eq_true rfl) (rA_in (by omega) (by omega)) (fun H_6 p_7 z_8 q_9 => ?_)
  have s_10 : H_6.size = o + 1 := z_8.trans s_5
  clear p_2 z_8 q_9 s_5
  refine x_aload_n ho 0 d_GR_init_14 rfl ?_
  refine x_iconst ho d_GR_init_15 ?_
  refine x_put 2 ho d_GR_init_16 cl_GR (by decide) g_198 p_7 rfl rfl rfl (Nat.le_of_ble_eq_true rfl) (rA_in (by omega) (by omega)) (fun H_11 p_12 z_13 q_14 => ?_)
  have s_15 : H_11.size = o + 1 := z_13.trans s_10
  clear p_7 z_13 q_14 s_10
  refine x_vret ho hr d_GR_init_19 ?_
  exact ⟨rfl, p_12⟩
def q_LM_init (D : GG) (o : Nat) : Option Value → Heap → Prop := fun v0 H => v0 = none ∧ isM D H o 0 0
theorem yv_LM_init : Yv y_LM_init b_LM_init 1 (Option.none : Option FieldType) 0 := ⟨g_209, g_63, by decide, by decide +kernel⟩
set_option maxHeartbeats 4000000 in
set_option maxRecDepth 100000 in
theorem c_LM_init (l0 : Launch) (D : GG) (o : Nat)  : Ct l0 D y_LM_init b_LM_init 1 (Option.none : Option FieldType) ({ frames := 1, cells := 0, slots := 0, locals := 20 } : Room) [.ref o] (fun H => At D H o (oO 3 [zV 0, zV 0]) ∧ H.size = o + 1) (rA o (o + 1)) 0 0 (q_LM_init D o) := by
  refine Ct.of (L := [(0, .ref o)]) (by decide) (Nat.le_of_ble_eq_true rfl) rfl (fun M H ho hr hnm hH hpre => ?_)
  obtain ⟨t_o, t_z⟩ := hpre
  refine x_aload_n ho 0 d_LM_init_0 rfl ?_
  refine x_oinit ho d_LM_init_1 g_210 (Nat.le_of_ble_eq_true rfl) (Nat.le_of_ble_eq_true rfl) ?_
  refine x_aload_n ho 0 d_LM_init_4 rfl ?_
  refine x_iconst ho d_LM_init_5 ?_
  refine x_put 0 ho d_LM_init_6 cl_LM (by decide) g_211 t_o rfl rfl rfl (Nat.le_of_ble_eq_true rfl) (rA_in (by omega) (by omega)) (fun H_1 p_2 z_3 q_4 => ?_)
  have s_5 : H_1.size = o + 1 := z_3.trans t_z
  clear t_o z_3 q_4 t_z
  refine x_aload_n ho 0 d_LM_init_9 rfl ?_
  refine x_iconst ho d_LM_init_10 ?_
  refine x_put 1 ho d_LM_init_11 cl_LM (by decide) g_212 p_2 rfl rfl rfl (Nat.le_of_ble_eq_true rfl) (rA_in (by omega) (by omega)) (fun H_6 p_7 z_8 q_9 => ?_)
  have s_10 : H_6.size = o + 1 := z_8.trans s_5
  clear p_2 z_8 q_9 s_5
  refine x_vret ho hr d_LM_init_14 ?_
  exact ⟨rfl, p_7⟩
def q_RT_init (D : GG) (o : Nat) : Option Value → Heap → Prop := fun v0 H => v0 = none ∧ isRT D H o ([]) ([]) ([])
theorem yv_RT_init : Yv y_RT_init b_RT_init 1 (Option.none : Option FieldType) 0 := ⟨g_221, g_64, by decide, by decide +kernel⟩
set_option maxHeartbeats 4000000 in
set_option maxRecDepth 100000 in
theorem c_RT_init (l0 : Launch) (D : GG) (o : Nat)  : Ct l0 D y_RT_init b_RT_init 1 (Option.none : Option FieldType) ({ frames := 1, cells := 4, slots := 1200, locals := 20 } : Room) [.ref o] (fun H => At D H o (oO 6 [.null, zV 0, .null, .null, .null, zV 0]) ∧ H.size = o + 1) (rA o (o + 5)) 4 1200 (q_RT_init D o) := by
  refine Ct.of (L := [(0, .ref o)]) (by decide) (Nat.le_of_ble_eq_true rfl) rfl (fun M H ho hr hnm hH hpre => ?_)
  obtain ⟨t_o, t_z⟩ := hpre
  refine x_aload_n ho 0 d_RT_init_0 rfl ?_
  refine x_oinit ho d_RT_init_1 g_222 (Nat.le_of_ble_eq_true rfl) (Nat.le_of_ble_eq_true rfl) ?_
  refine x_aload_n ho 0 d_RT_init_4 rfl ?_
  refine x_sipush (z := 300) ho d_RT_init_5 (by decide) ?_
  refine x_newI (n := 300) (z := 300) ho d_RT_init_8 rfl (by decide) (Nat.le_of_ble_eq_true rfl) (Nat.le_of_ble_eq_true rfl) t_z (fun H_1 p_2 z_3 q_4 => ?_)
  have k_5 := t_o.kept (q_4 _ (by have := t_o.lt; omega))
  have s_6 : H_1.size = o + 2 := z_3
  clear t_o z_3 q_4 t_z
  show X _ _ _ _ 1 300 _ _ _ [.ref (o + 1), .ref o] _
  refine x_putF 0 ho hnm d_RT_init_10 cl_RT (by decide) g_223 k_5 rfl rfl rfl rfl (Nat.le_of_ble_eq_true rfl) (rA_in (by omega) (by omega)) (fun H_7 p_8 z_9 q_10 => ?_)
  have k_11 := p_2.kept (q_10 _ (by omega))
  have s_12 : H_7.size = o + 2 := z_9.trans s_6
  clear k_5 p_2 z_9 q_10 s_6
  refine x_aload_n ho 0 d_RT_init_13 rfl ?_
  refine x_iconst ho d_RT_init_14 ?_
  refine x_put 1 ho d_RT_init_15 cl_RT (by decide) g_224 p_8 rfl rfl rfl (Nat.le_of_ble_eq_true rfl) (rA_in (by omega) (by omega)) (fun H_13 p_14 z_15 q_16 => ?_)
  have k_17 := k_11.kept (q_16 _ (by omega))
  have s_18 : H_13.size = o + 2 := z_15.trans s_12
  clear k_11 p_8 z_15 q_16 s_12
  refine x_aload_n ho 0 d_RT_init_18 rfl ?_
  refine x_sipush (z := 300) ho d_RT_init_19 (by decide) ?_
  refine x_newI (n := 300) (z := 300) ho d_RT_init_22 rfl (by decide) (Nat.le_of_ble_eq_true rfl) (Nat.le_of_ble_eq_true rfl) s_18 (fun H_19 p_20 z_21 q_22 => ?_)
  have k_23 := k_17.kept (q_22 _ (by have := k_17.lt; omega))
  have k_24 := p_14.kept (q_22 _ (by have := p_14.lt; omega))
  have s_25 : H_19.size = o + 3 := z_21
  clear k_17 p_14 z_21 q_22 s_18
  show X _ _ _ _ 2 600 _ _ _ [.ref (o + 2), .ref o] _
  refine x_putF 2 ho hnm d_RT_init_24 cl_RT (by decide) g_225 k_24 rfl rfl rfl rfl (Nat.le_of_ble_eq_true rfl) (rA_in (by omega) (by omega)) (fun H_26 p_27 z_28 q_29 => ?_)
  have k_30 := k_23.kept (q_29 _ (by omega))
  have k_31 := p_20.kept (q_29 _ (by omega))
  have s_32 : H_26.size = o + 3 := z_28.trans s_25
  clear k_23 k_24 p_20 z_28 q_29 s_25
  refine x_aload_n ho 0 d_RT_init_27 rfl ?_
  refine x_sipush (z := 300) ho d_RT_init_28 (by decide) ?_
  refine x_newI (n := 300) (z := 300) ho d_RT_init_31 rfl (by decide) (Nat.le_of_ble_eq_true rfl) (Nat.le_of_ble_eq_true rfl) s_32 (fun H_33 p_34 z_35 q_36 => ?_)
  have k_37 := k_30.kept (q_36 _ (by have := k_30.lt; omega))
  have k_38 := k_31.kept (q_36 _ (by have := k_31.lt; omega))
  have k_39 := p_27.kept (q_36 _ (by have := p_27.lt; omega))
  have s_40 : H_33.size = o + 4 := z_35
  clear k_30 k_31 p_27 z_35 q_36 s_32
  show X _ _ _ _ 3 900 _ _ _ [.ref (o + 3), .ref o] _
  refine x_putF 3 ho hnm d_RT_init_33 cl_RT (by decide) g_226 k_39 rfl rfl rfl rfl (Nat.le_of_ble_eq_true rfl) (rA_in (by omega) (by omega)) (fun H_41 p_42 z_43 q_44 => ?_)
  have k_45 := k_37.kept (q_44 _ (by omega))
  have k_46 := k_38.kept (q_44 _ (by omega))
  have k_47 := p_34.kept (q_44 _ (by omega))
  have s_48 : H_41.size = o + 4 := z_43.trans s_40
  clear k_37 k_38 k_39 p_34 z_43 q_44 s_40
  refine x_aload_n ho 0 d_RT_init_36 rfl ?_
  refine x_sipush (z := 300) ho d_RT_init_37 (by decide) ?_
  refine x_newI (n := 300) (z := 300) ho d_RT_init_40 rfl (by decide) (Nat.le_of_ble_eq_true rfl) (Nat.le_of_ble_eq_true rfl) s_48 (fun H_49 p_50 z_51 q_52 => ?_)
  have k_53 := k_45.kept (q_52 _ (by have := k_45.lt; omega))
  have k_54 := k_46.kept (q_52 _ (by have := k_46.lt; omega))
  have k_55 := k_47.kept (q_52 _ (by have := k_47.lt; omega))
  have k_56 := p_42.kept (q_52 _ (by have := p_42.lt; omega))
  have s_57 : H_49.size = o + 5 := z_51
  clear k_45 k_46 k_47 p_42 z_51 q_52 s_48
  show X _ _ _ _ 4 1200 _ _ _ [.ref (o + 4), .ref o] _
  refine x_putF 4 ho hnm d_RT_init_42 cl_RT (by decide) g_227 k_56 rfl rfl rfl rfl (Nat.le_of_ble_eq_true rfl) (rA_in (by omega) (by omega)) (fun H_58 p_59 z_60 q_61 => ?_)
  have k_62 := k_53.kept (q_61 _ (by omega))
  have k_63 := k_54.kept (q_61 _ (by omega))
  have k_64 := k_55.kept (q_61 _ (by omega))
  have k_65 := p_50.kept (q_61 _ (by omega))
  have s_66 : H_58.size = o + 5 := z_60.trans s_57
  clear k_53 k_54 k_55 k_56 p_50 z_60 q_61 s_57
  refine x_aload_n ho 0 d_RT_init_45 rfl ?_
  refine x_iconst ho d_RT_init_46 ?_
  refine x_put 5 ho d_RT_init_47 cl_RT (by decide) g_228 p_59 rfl rfl rfl (Nat.le_of_ble_eq_true rfl) (rA_in (by omega) (by omega)) (fun H_67 p_68 z_69 q_70 => ?_)
  have k_71 := k_62.kept (q_70 _ (by omega))
  have k_72 := k_63.kept (q_70 _ (by omega))
  have k_73 := k_64.kept (q_70 _ (by omega))
  have k_74 := k_65.kept (q_70 _ (by omega))
  have s_75 : H_67.size = o + 5 := z_69.trans s_66
  clear k_62 k_63 k_64 k_65 p_59 z_69 q_70 s_66
  refine x_vret ho hr d_RT_init_50 ?_
  exact ⟨rfl, isRT_born p_68 k_71 k_72 k_73 k_74⟩
def q_MW_init (D : GG) (x : Nat) : Option Value → Heap → Prop := fun v0 H => v0 = none ∧ isW D H x wv0
theorem yv_MW_init : Yv y_MW_init b_MW_init 1 (Option.none : Option FieldType) 0 := ⟨g_72, g_53, by decide, by decide +kernel⟩
set_option maxHeartbeats 4000000 in
set_option maxRecDepth 100000 in
theorem c_MW_init (l0 : Launch) (D : GG) (x : Nat)  : Ct l0 D y_MW_init b_MW_init 1 (Option.none : Option FieldType) ({ frames := 5, cells := 136, slots := 4515, locals := 105 } : Room) [.ref x] (fun H => At D H x (oO 10 [.null, .null, zV 0, .null, .null, .null, .null, .null, .null, .null, .null, .null, .null, .null]) ∧ H.size = x + 1) (rA x (x + 137)) 136 4515 (q_MW_init D x) := by
  refine Ct.of (L := [(0, .ref x)]) (by decide) (Nat.le_of_ble_eq_true rfl) rfl (fun M H ho hr hnm hH hpre => ?_)
  obtain ⟨t_o, t_z⟩ := hpre
  refine x_aload_n ho 0 d_MW_init_0 rfl ?_
  refine x_oinit ho d_MW_init_1 g_73 (Nat.le_of_ble_eq_true rfl) (Nat.le_of_ble_eq_true rfl) ?_
  refine x_aload_n ho 0 d_MW_init_4 rfl ?_
  refine x_new (fs := [.null, .null, .null]) ho d_MW_init_5 cl_ST g_76 g_77 g_54 (by decide +kernel) (Nat.le_of_ble_eq_true rfl) (Nat.le_of_ble_eq_true rfl) t_z (fun H_1 p_2 z_3 q_4 => ?_)
  have k_5 := t_o.kept (q_4 _ (by have := t_o.lt; omega))
  have s_6 : H_1.size = x + 2 := z_3
  clear t_o z_3 q_4 t_z
  show X _ _ _ _ 1 3 _ _ _ [.ref (x + 1), .ref x] _
  refine x_dup ho d_MW_init_8 rfl ?_
  refine x_callI (rest := [.ref (x + 1), .ref x]) ho d_MW_init_9 yv_ST_init rfl g_79 g_78 (c_ST_init M.2.1 D (x + 1) ) rfl rfl ⟨Nat.le_of_ble_eq_true rfl, Nat.le_of_ble_eq_true rfl⟩ ⟨Nat.le_of_ble_eq_true rfl, Nat.le_of_ble_eq_true rfl⟩ rfl rfl (Nat.le_of_ble_eq_true rfl) ⟨p_2, (show H_1.size = (x + 1) + 1 by omega)⟩ (rA_sub (by omega) (by omega)) (fun v_7 H_9 hv_7 f_8 => ?_)
  have k_10 := k_5.kept (f_8.2 _ k_5.lt (rA_no (by omega)))
  have s_11 : H_9.size = x + 18 := by have := f_8.1; omega
  clear k_5 p_2 s_6 f_8
  obtain ⟨rfl, t_n_12⟩ := hv_7
  show X _ _ _ _ 17 375 _ _ _ [.ref (x + 1), .ref x] _
  refine x_putF 0 ho hnm d_MW_init_12 cl_MW (by decide) g_242 k_10 rfl rfl rfl rfl (Nat.le_of_ble_eq_true rfl) (rA_in (by omega) (by omega)) (fun H_13 p_14 z_15 q_16 => ?_)
  have k_17 := t_n_12.kept (fun q g1 g2 => q_16 q (by omega))
  have s_18 : H_13.size = x + 18 := z_15.trans s_11
  clear k_10 t_n_12 z_15 q_16 s_11
  refine x_aload_n ho 0 d_MW_init_15 rfl ?_
  refine x_new (fs := [.null, .null, .null]) ho d_MW_init_16 cl_ST g_76 g_77 g_54 (by decide +kernel) (Nat.le_of_ble_eq_true rfl) (Nat.le_of_ble_eq_true rfl) s_18 (fun H_19 p_20 z_21 q_22 => ?_)
  have k_23 := k_17.kept (fun q g1 g2 => q_22 q (by have := k_17.lt; omega))
  have k_24 := p_14.kept (q_22 _ (by have := p_14.lt; omega))
  have s_25 : H_19.size = x + 19 := z_21
  clear k_17 p_14 z_21 q_22 s_18
  show X _ _ _ _ 18 378 _ _ _ [.ref (x + 18), .ref x] _
  refine x_dup ho d_MW_init_19 rfl ?_
  refine x_callI (rest := [.ref (x + 18), .ref x]) ho d_MW_init_20 yv_ST_init rfl g_79 g_78 (c_ST_init M.2.1 D (x + 18) ) rfl rfl ⟨Nat.le_of_ble_eq_true rfl, Nat.le_of_ble_eq_true rfl⟩ ⟨Nat.le_of_ble_eq_true rfl, Nat.le_of_ble_eq_true rfl⟩ rfl rfl (Nat.le_of_ble_eq_true rfl) ⟨p_20, (show H_19.size = (x + 18) + 1 by omega)⟩ (rA_sub (by omega) (by omega)) (fun v_26 H_28 hv_26 f_27 => ?_)
  have k_29 := k_23.kept (fun q g1 g2 => f_27.2 q (by have := k_23.lt; omega) (rA_no (by omega)))
  have k_30 := k_24.kept (f_27.2 _ k_24.lt (rA_no (by omega)))
  have s_31 : H_28.size = x + 35 := by have := f_27.1; omega
  clear k_23 k_24 p_20 s_25 f_27
  obtain ⟨rfl, t_n_32⟩ := hv_26
  show X _ _ _ _ 34 750 _ _ _ [.ref (x + 18), .ref x] _
  refine x_putF 1 ho hnm d_MW_init_23 cl_MW (by decide) g_243 k_30 rfl rfl rfl rfl (Nat.le_of_ble_eq_true rfl) (rA_in (by omega) (by omega)) (fun H_33 p_34 z_35 q_36 => ?_)
  have k_37 := k_29.kept (fun q g1 g2 => q_36 q (by omega))
  have k_38 := t_n_32.kept (fun q g1 g2 => q_36 q (by omega))
  have s_39 : H_33.size = x + 35 := z_35.trans s_31
  clear k_29 k_30 t_n_32 z_35 q_36 s_31
  refine x_aload_n ho 0 d_MW_init_26 rfl ?_
  refine x_iconst ho d_MW_init_27 ?_
  refine x_put 2 ho d_MW_init_28 cl_MW (by decide) g_244 p_34 rfl (by decide) rfl (Nat.le_of_ble_eq_true rfl) (rA_in (by omega) (by omega)) (fun H_40 p_41 z_42 q_43 => ?_)
  have k_44 := k_37.kept (fun q g1 g2 => q_43 q (by omega))
  have k_45 := k_38.kept (fun q g1 g2 => q_43 q (by omega))
  have s_46 : H_40.size = x + 35 := z_42.trans s_39
  clear k_37 k_38 p_34 z_42 q_43 s_39
  refine x_aload_n ho 0 d_MW_init_31 rfl ?_
  refine x_new (fs := [.null, zV 0]) ho d_MW_init_32 cl_HI g_134 g_135 g_58 (by decide +kernel) (Nat.le_of_ble_eq_true rfl) (Nat.le_of_ble_eq_true rfl) s_46 (fun H_47 p_48 z_49 q_50 => ?_)
  have k_51 := k_44.kept (fun q g1 g2 => q_50 q (by have := k_44.lt; omega))
  have k_52 := k_45.kept (fun q g1 g2 => q_50 q (by have := k_45.lt; omega))
  have k_53 := p_41.kept (q_50 _ (by have := p_41.lt; omega))
  have s_54 : H_47.size = x + 36 := z_49
  clear k_44 k_45 p_41 z_49 q_50 s_46
  show X _ _ _ _ 35 752 _ _ _ [.ref (x + 35), .ref x] _
  refine x_dup ho d_MW_init_35 rfl ?_
  refine x_callI (rest := [.ref (x + 35), .ref x]) ho d_MW_init_36 yv_HI_init rfl g_137 g_136 (c_HI_init M.2.1 D (x + 35) ) rfl rfl ⟨Nat.le_of_ble_eq_true rfl, Nat.le_of_ble_eq_true rfl⟩ ⟨Nat.le_of_ble_eq_true rfl, Nat.le_of_ble_eq_true rfl⟩ rfl rfl (Nat.le_of_ble_eq_true rfl) ⟨p_48, (show H_47.size = (x + 35) + 1 by omega)⟩ (rA_sub (by omega) (by omega)) (fun v_55 H_57 hv_55 f_56 => ?_)
  have k_58 := k_51.kept (fun q g1 g2 => f_56.2 q (by have := k_51.lt; omega) (rA_no (by omega)))
  have k_59 := k_52.kept (fun q g1 g2 => f_56.2 q (by have := k_52.lt; omega) (rA_no (by omega)))
  have k_60 := k_53.kept (f_56.2 _ k_53.lt (rA_no (by omega)))
  have s_61 : H_57.size = x + 105 := by have := f_56.1; omega
  clear k_51 k_52 k_53 p_48 s_54 f_56
  obtain ⟨rfl, t_n_62⟩ := hv_55
  show X _ _ _ _ 104 2256 _ _ _ [.ref (x + 35), .ref x] _
  refine x_putF 3 ho hnm d_MW_init_39 cl_MW (by decide) g_245 k_60 rfl rfl rfl rfl (Nat.le_of_ble_eq_true rfl) (rA_in (by omega) (by omega)) (fun H_63 p_64 z_65 q_66 => ?_)
  have k_67 := k_58.kept (fun q g1 g2 => q_66 q (by omega))
  have k_68 := k_59.kept (fun q g1 g2 => q_66 q (by omega))
  have k_69 := t_n_62.kept (fun q g1 g2 => q_66 q (by omega))
  have s_70 : H_63.size = x + 105 := z_65.trans s_61
  clear k_58 k_59 k_60 t_n_62 z_65 q_66 s_61
  refine x_aload_n ho 0 d_MW_init_42 rfl ?_
  refine x_new (fs := [.null, zV 0]) ho d_MW_init_43 cl_TX g_149 g_150 g_59 (by decide +kernel) (Nat.le_of_ble_eq_true rfl) (Nat.le_of_ble_eq_true rfl) s_70 (fun H_71 p_72 z_73 q_74 => ?_)
  have k_75 := k_67.kept (fun q g1 g2 => q_74 q (by have := k_67.lt; omega))
  have k_76 := k_68.kept (fun q g1 g2 => q_74 q (by have := k_68.lt; omega))
  have k_77 := k_69.kept (fun q g1 g2 => q_74 q (by have := k_69.lt; omega))
  have k_78 := p_64.kept (q_74 _ (by have := p_64.lt; omega))
  have s_79 : H_71.size = x + 106 := z_73
  clear k_67 k_68 k_69 p_64 z_73 q_74 s_70
  show X _ _ _ _ 105 2258 _ _ _ [.ref (x + 105), .ref x] _
  refine x_dup ho d_MW_init_46 rfl ?_
  refine x_callIN (host := "MorphWords") (rest := [.ref (x + 105), .ref x]) ho d_MW_init_47 yv_TX_init rfl g_151 (List.mem_of_getElem? (i := 1) rfl) (c_TX_init M.2.1 D (x + 105) ) rfl rfl ⟨Nat.le_of_ble_eq_true rfl, Nat.le_of_ble_eq_true rfl⟩ ⟨Nat.le_of_ble_eq_true rfl, Nat.le_of_ble_eq_true rfl⟩ rfl rfl (Nat.le_of_ble_eq_true rfl) ⟨p_72, (show H_71.size = (x + 105) + 1 by omega)⟩ (rA_sub (by omega) (by omega)) (fun v_80 H_82 hv_80 f_81 => ?_)
  have k_83 := k_75.kept (fun q g1 g2 => f_81.2 q (by have := k_75.lt; omega) (rA_no (by omega)))
  have k_84 := k_76.kept (fun q g1 g2 => f_81.2 q (by have := k_76.lt; omega) (rA_no (by omega)))
  have k_85 := k_77.kept (fun q g1 g2 => f_81.2 q (by have := k_77.lt; omega) (rA_no (by omega)))
  have k_86 := k_78.kept (f_81.2 _ k_78.lt (rA_no (by omega)))
  have s_87 : H_82.size = x + 107 := by have := f_81.1; omega
  clear k_75 k_76 k_77 k_78 p_72 s_79 f_81
  obtain ⟨rfl, t_n_88⟩ := hv_80
  show X _ _ _ _ 106 2318 _ _ _ [.ref (x + 105), .ref x] _
  refine x_putF 4 ho hnm d_MW_init_50 cl_MW (by decide) g_246 k_86 rfl rfl rfl rfl (Nat.le_of_ble_eq_true rfl) (rA_in (by omega) (by omega)) (fun H_89 p_90 z_91 q_92 => ?_)
  have k_93 := k_83.kept (fun q g1 g2 => q_92 q (by omega))
  have k_94 := k_84.kept (fun q g1 g2 => q_92 q (by omega))
  have k_95 := k_85.kept (fun q g1 g2 => q_92 q (by omega))
  have k_96 := t_n_88.kept (fun q g1 g2 => q_92 q (by omega))
  have s_97 : H_89.size = x + 107 := z_91.trans s_87
  clear k_83 k_84 k_85 k_86 t_n_88 z_91 q_92 s_87
  refine x_aload_n ho 0 d_MW_init_53 rfl ?_
  refine x_new (fs := [.null, .null]) ho d_MW_init_54 cl_RU g_162 g_83 g_55 (by decide +kernel) (Nat.le_of_ble_eq_true rfl) (Nat.le_of_ble_eq_true rfl) s_97 (fun H_98 p_99 z_100 q_101 => ?_)
  have k_102 := k_93.kept (fun q g1 g2 => q_101 q (by have := k_93.lt; omega))
  have k_103 := k_94.kept (fun q g1 g2 => q_101 q (by have := k_94.lt; omega))
  have k_104 := k_95.kept (fun q g1 g2 => q_101 q (by have := k_95.lt; omega))
  have k_105 := k_96.kept (fun q g1 g2 => q_101 q (by have := k_96.lt; omega))
  have k_106 := p_90.kept (q_101 _ (by have := p_90.lt; omega))
  have s_107 : H_98.size = x + 108 := z_100
  clear k_93 k_94 k_95 k_96 p_90 z_100 q_101 s_97
  show X _ _ _ _ 107 2320 _ _ _ [.ref (x + 107), .ref x] _
  refine x_dup ho d_MW_init_57 rfl ?_
  refine x_callI (rest := [.ref (x + 107), .ref x]) ho d_MW_init_58 yv_RU_init rfl g_85 g_163 (c_RU_init M.2.1 D (x + 107) ) rfl rfl ⟨Nat.le_of_ble_eq_true rfl, Nat.le_of_ble_eq_true rfl⟩ ⟨Nat.le_of_ble_eq_true rfl, Nat.le_of_ble_eq_true rfl⟩ rfl rfl (Nat.le_of_ble_eq_true rfl) ⟨p_99, (show H_98.size = (x + 107) + 1 by omega)⟩ (rA_sub (by omega) (by omega)) (fun v_108 H_110 hv_108 f_109 => ?_)
  have k_111 := k_102.kept (fun q g1 g2 => f_109.2 q (by have := k_102.lt; omega) (rA_no (by omega)))
  have k_112 := k_103.kept (fun q g1 g2 => f_109.2 q (by have := k_103.lt; omega) (rA_no (by omega)))
  have k_113 := k_104.kept (fun q g1 g2 => f_109.2 q (by have := k_104.lt; omega) (rA_no (by omega)))
  have k_114 := k_105.kept (fun q g1 g2 => f_109.2 q (by have := k_105.lt; omega) (rA_no (by omega)))
  have k_115 := k_106.kept (f_109.2 _ k_106.lt (rA_no (by omega)))
  have s_116 : H_110.size = x + 119 := by have := f_109.1; omega
  clear k_102 k_103 k_104 k_105 k_106 p_99 s_107 f_109
  obtain ⟨rfl, t_n_117⟩ := hv_108
  show X _ _ _ _ 118 2366 _ _ _ [.ref (x + 107), .ref x] _
  refine x_putF 5 ho hnm d_MW_init_61 cl_MW (by decide) g_247 k_115 rfl rfl rfl rfl (Nat.le_of_ble_eq_true rfl) (rA_in (by omega) (by omega)) (fun H_118 p_119 z_120 q_121 => ?_)
  have k_122 := k_111.kept (fun q g1 g2 => q_121 q (by omega))
  have k_123 := k_112.kept (fun q g1 g2 => q_121 q (by omega))
  have k_124 := k_113.kept (fun q g1 g2 => q_121 q (by omega))
  have k_125 := k_114.kept (fun q g1 g2 => q_121 q (by omega))
  have k_126 := t_n_117.kept (fun q g1 g2 => q_121 q (by omega))
  have s_127 : H_118.size = x + 119 := z_120.trans s_116
  clear k_111 k_112 k_113 k_114 k_115 t_n_117 z_120 q_121 s_116
  refine x_aload_n ho 0 d_MW_init_64 rfl ?_
  refine x_new (fs := [.null, zV 0]) ho d_MW_init_65 cl_LE g_164 g_89 g_56 (by decide +kernel) (Nat.le_of_ble_eq_true rfl) (Nat.le_of_ble_eq_true rfl) s_127 (fun H_128 p_129 z_130 q_131 => ?_)
  have k_132 := k_122.kept (fun q g1 g2 => q_131 q (by have := k_122.lt; omega))
  have k_133 := k_123.kept (fun q g1 g2 => q_131 q (by have := k_123.lt; omega))
  have k_134 := k_124.kept (fun q g1 g2 => q_131 q (by have := k_124.lt; omega))
  have k_135 := k_125.kept (fun q g1 g2 => q_131 q (by have := k_125.lt; omega))
  have k_136 := k_126.kept (fun q g1 g2 => q_131 q (by have := k_126.lt; omega))
  have k_137 := p_119.kept (q_131 _ (by have := p_119.lt; omega))
  have s_138 : H_128.size = x + 120 := z_130
  clear k_122 k_123 k_124 k_125 k_126 p_119 z_130 q_131 s_127
  show X _ _ _ _ 119 2368 _ _ _ [.ref (x + 119), .ref x] _
  refine x_dup ho d_MW_init_68 rfl ?_
  refine x_sipush (z := 300) ho d_MW_init_69 (by decide) ?_
  refine x_callI (rest := [.ref (x + 119), .ref x]) ho d_MW_init_72 yv_LE_init rfl g_91 g_165 (c_LE_init_300 M.2.1 D (x + 119) ) rfl rfl ⟨Nat.le_of_ble_eq_true rfl, Nat.le_of_ble_eq_true rfl⟩ ⟨Nat.le_of_ble_eq_true rfl, Nat.le_of_ble_eq_true rfl⟩ rfl rfl (Nat.le_of_ble_eq_true rfl) ⟨p_129, (show H_128.size = (x + 119) + 1 by omega)⟩ (rA_sub (by omega) (by omega)) (fun v_139 H_141 hv_139 f_140 => ?_)
  have k_142 := k_132.kept (fun q g1 g2 => f_140.2 q (by have := k_132.lt; omega) (rA_no (by omega)))
  have k_143 := k_133.kept (fun q g1 g2 => f_140.2 q (by have := k_133.lt; omega) (rA_no (by omega)))
  have k_144 := k_134.kept (fun q g1 g2 => f_140.2 q (by have := k_134.lt; omega) (rA_no (by omega)))
  have k_145 := k_135.kept (fun q g1 g2 => f_140.2 q (by have := k_135.lt; omega) (rA_no (by omega)))
  have k_146 := k_136.kept (fun q g1 g2 => f_140.2 q (by have := k_136.lt; omega) (rA_no (by omega)))
  have k_147 := k_137.kept (f_140.2 _ k_137.lt (rA_no (by omega)))
  have s_148 : H_141.size = x + 121 := by have := f_140.1; omega
  clear k_132 k_133 k_134 k_135 k_136 k_137 p_129 s_138 f_140
  obtain ⟨rfl, t_n_149⟩ := hv_139
  show X _ _ _ _ 120 2668 _ _ _ [.ref (x + 119), .ref x] _
  refine x_putF 6 ho hnm d_MW_init_75 cl_MW (by decide) g_248 k_147 rfl rfl rfl rfl (Nat.le_of_ble_eq_true rfl) (rA_in (by omega) (by omega)) (fun H_150 p_151 z_152 q_153 => ?_)
  have k_154 := k_142.kept (fun q g1 g2 => q_153 q (by omega))
  have k_155 := k_143.kept (fun q g1 g2 => q_153 q (by omega))
  have k_156 := k_144.kept (fun q g1 g2 => q_153 q (by omega))
  have k_157 := k_145.kept (fun q g1 g2 => q_153 q (by omega))
  have k_158 := k_146.kept (fun q g1 g2 => q_153 q (by omega))
  have k_159 := t_n_149.kept (fun q g1 g2 => q_153 q (by omega))
  have s_160 : H_150.size = x + 121 := z_152.trans s_148
  clear k_142 k_143 k_144 k_145 k_146 k_147 t_n_149 z_152 q_153 s_148
  refine x_aload_n ho 0 d_MW_init_78 rfl ?_
  refine x_new (fs := [.null, zV 0]) ho d_MW_init_79 cl_LE g_164 g_89 g_56 (by decide +kernel) (Nat.le_of_ble_eq_true rfl) (Nat.le_of_ble_eq_true rfl) s_160 (fun H_161 p_162 z_163 q_164 => ?_)
  have k_165 := k_154.kept (fun q g1 g2 => q_164 q (by have := k_154.lt; omega))
  have k_166 := k_155.kept (fun q g1 g2 => q_164 q (by have := k_155.lt; omega))
  have k_167 := k_156.kept (fun q g1 g2 => q_164 q (by have := k_156.lt; omega))
  have k_168 := k_157.kept (fun q g1 g2 => q_164 q (by have := k_157.lt; omega))
  have k_169 := k_158.kept (fun q g1 g2 => q_164 q (by have := k_158.lt; omega))
  have k_170 := k_159.kept (fun q g1 g2 => q_164 q (by have := k_159.lt; omega))
  have k_171 := p_151.kept (q_164 _ (by have := p_151.lt; omega))
  have s_172 : H_161.size = x + 122 := z_163
  clear k_154 k_155 k_156 k_157 k_158 k_159 p_151 z_163 q_164 s_160
  show X _ _ _ _ 121 2670 _ _ _ [.ref (x + 121), .ref x] _
  refine x_dup ho d_MW_init_82 rfl ?_
  refine x_sipush (z := 300) ho d_MW_init_83 (by decide) ?_
  refine x_callI (rest := [.ref (x + 121), .ref x]) ho d_MW_init_86 yv_LE_init rfl g_91 g_165 (c_LE_init_300 M.2.1 D (x + 121) ) rfl rfl ⟨Nat.le_of_ble_eq_true rfl, Nat.le_of_ble_eq_true rfl⟩ ⟨Nat.le_of_ble_eq_true rfl, Nat.le_of_ble_eq_true rfl⟩ rfl rfl (Nat.le_of_ble_eq_true rfl) ⟨p_162, (show H_161.size = (x + 121) + 1 by omega)⟩ (rA_sub (by omega) (by omega)) (fun v_173 H_175 hv_173 f_174 => ?_)
  have k_176 := k_165.kept (fun q g1 g2 => f_174.2 q (by have := k_165.lt; omega) (rA_no (by omega)))
  have k_177 := k_166.kept (fun q g1 g2 => f_174.2 q (by have := k_166.lt; omega) (rA_no (by omega)))
  have k_178 := k_167.kept (fun q g1 g2 => f_174.2 q (by have := k_167.lt; omega) (rA_no (by omega)))
  have k_179 := k_168.kept (fun q g1 g2 => f_174.2 q (by have := k_168.lt; omega) (rA_no (by omega)))
  have k_180 := k_169.kept (fun q g1 g2 => f_174.2 q (by have := k_169.lt; omega) (rA_no (by omega)))
  have k_181 := k_170.kept (fun q g1 g2 => f_174.2 q (by have := k_170.lt; omega) (rA_no (by omega)))
  have k_182 := k_171.kept (f_174.2 _ k_171.lt (rA_no (by omega)))
  have s_183 : H_175.size = x + 123 := by have := f_174.1; omega
  clear k_165 k_166 k_167 k_168 k_169 k_170 k_171 p_162 s_172 f_174
  obtain ⟨rfl, t_n_184⟩ := hv_173
  show X _ _ _ _ 122 2970 _ _ _ [.ref (x + 121), .ref x] _
  refine x_putF 7 ho hnm d_MW_init_89 cl_MW (by decide) g_249 k_182 rfl rfl rfl rfl (Nat.le_of_ble_eq_true rfl) (rA_in (by omega) (by omega)) (fun H_185 p_186 z_187 q_188 => ?_)
  have k_189 := k_176.kept (fun q g1 g2 => q_188 q (by omega))
  have k_190 := k_177.kept (fun q g1 g2 => q_188 q (by omega))
  have k_191 := k_178.kept (fun q g1 g2 => q_188 q (by omega))
  have k_192 := k_179.kept (fun q g1 g2 => q_188 q (by omega))
  have k_193 := k_180.kept (fun q g1 g2 => q_188 q (by omega))
  have k_194 := k_181.kept (fun q g1 g2 => q_188 q (by omega))
  have k_195 := t_n_184.kept (fun q g1 g2 => q_188 q (by omega))
  have s_196 : H_185.size = x + 123 := z_187.trans s_183
  clear k_176 k_177 k_178 k_179 k_180 k_181 k_182 t_n_184 z_187 q_188 s_183
  refine x_aload_n ho 0 d_MW_init_92 rfl ?_
  refine x_new (fs := [.null, zV 0]) ho d_MW_init_93 cl_LE g_164 g_89 g_56 (by decide +kernel) (Nat.le_of_ble_eq_true rfl) (Nat.le_of_ble_eq_true rfl) s_196 (fun H_197 p_198 z_199 q_200 => ?_)
  have k_201 := k_189.kept (fun q g1 g2 => q_200 q (by have := k_189.lt; omega))
  have k_202 := k_190.kept (fun q g1 g2 => q_200 q (by have := k_190.lt; omega))
  have k_203 := k_191.kept (fun q g1 g2 => q_200 q (by have := k_191.lt; omega))
  have k_204 := k_192.kept (fun q g1 g2 => q_200 q (by have := k_192.lt; omega))
  have k_205 := k_193.kept (fun q g1 g2 => q_200 q (by have := k_193.lt; omega))
  have k_206 := k_194.kept (fun q g1 g2 => q_200 q (by have := k_194.lt; omega))
  have k_207 := k_195.kept (fun q g1 g2 => q_200 q (by have := k_195.lt; omega))
  have k_208 := p_186.kept (q_200 _ (by have := p_186.lt; omega))
  have s_209 : H_197.size = x + 124 := z_199
  clear k_189 k_190 k_191 k_192 k_193 k_194 k_195 p_186 z_199 q_200 s_196
  show X _ _ _ _ 123 2972 _ _ _ [.ref (x + 123), .ref x] _
  refine x_dup ho d_MW_init_96 rfl ?_
  refine x_bipush (z := 20) ho d_MW_init_97 (by decide) ?_
  refine x_callI (rest := [.ref (x + 123), .ref x]) ho d_MW_init_99 yv_LE_init rfl g_91 g_165 (c_LE_init_20 M.2.1 D (x + 123) ) rfl rfl ⟨Nat.le_of_ble_eq_true rfl, Nat.le_of_ble_eq_true rfl⟩ ⟨Nat.le_of_ble_eq_true rfl, Nat.le_of_ble_eq_true rfl⟩ rfl rfl (Nat.le_of_ble_eq_true rfl) ⟨p_198, (show H_197.size = (x + 123) + 1 by omega)⟩ (rA_sub (by omega) (by omega)) (fun v_210 H_212 hv_210 f_211 => ?_)
  have k_213 := k_201.kept (fun q g1 g2 => f_211.2 q (by have := k_201.lt; omega) (rA_no (by omega)))
  have k_214 := k_202.kept (fun q g1 g2 => f_211.2 q (by have := k_202.lt; omega) (rA_no (by omega)))
  have k_215 := k_203.kept (fun q g1 g2 => f_211.2 q (by have := k_203.lt; omega) (rA_no (by omega)))
  have k_216 := k_204.kept (fun q g1 g2 => f_211.2 q (by have := k_204.lt; omega) (rA_no (by omega)))
  have k_217 := k_205.kept (fun q g1 g2 => f_211.2 q (by have := k_205.lt; omega) (rA_no (by omega)))
  have k_218 := k_206.kept (fun q g1 g2 => f_211.2 q (by have := k_206.lt; omega) (rA_no (by omega)))
  have k_219 := k_207.kept (fun q g1 g2 => f_211.2 q (by have := k_207.lt; omega) (rA_no (by omega)))
  have k_220 := k_208.kept (f_211.2 _ k_208.lt (rA_no (by omega)))
  have s_221 : H_212.size = x + 125 := by have := f_211.1; omega
  clear k_201 k_202 k_203 k_204 k_205 k_206 k_207 k_208 p_198 s_209 f_211
  obtain ⟨rfl, t_n_222⟩ := hv_210
  show X _ _ _ _ 124 2992 _ _ _ [.ref (x + 123), .ref x] _
  refine x_putF 8 ho hnm d_MW_init_102 cl_MW (by decide) g_250 k_220 rfl rfl rfl rfl (Nat.le_of_ble_eq_true rfl) (rA_in (by omega) (by omega)) (fun H_223 p_224 z_225 q_226 => ?_)
  have k_227 := k_213.kept (fun q g1 g2 => q_226 q (by omega))
  have k_228 := k_214.kept (fun q g1 g2 => q_226 q (by omega))
  have k_229 := k_215.kept (fun q g1 g2 => q_226 q (by omega))
  have k_230 := k_216.kept (fun q g1 g2 => q_226 q (by omega))
  have k_231 := k_217.kept (fun q g1 g2 => q_226 q (by omega))
  have k_232 := k_218.kept (fun q g1 g2 => q_226 q (by omega))
  have k_233 := k_219.kept (fun q g1 g2 => q_226 q (by omega))
  have k_234 := t_n_222.kept (fun q g1 g2 => q_226 q (by omega))
  have s_235 : H_223.size = x + 125 := z_225.trans s_221
  clear k_213 k_214 k_215 k_216 k_217 k_218 k_219 k_220 t_n_222 z_225 q_226 s_221
  refine x_aload_n ho 0 d_MW_init_105 rfl ?_
  refine x_new (fs := [.null, .null]) ho d_MW_init_106 cl_PW g_166 g_167 g_60 (by decide +kernel) (Nat.le_of_ble_eq_true rfl) (Nat.le_of_ble_eq_true rfl) s_235 (fun H_236 p_237 z_238 q_239 => ?_)
  have k_240 := k_227.kept (fun q g1 g2 => q_239 q (by have := k_227.lt; omega))
  have k_241 := k_228.kept (fun q g1 g2 => q_239 q (by have := k_228.lt; omega))
  have k_242 := k_229.kept (fun q g1 g2 => q_239 q (by have := k_229.lt; omega))
  have k_243 := k_230.kept (fun q g1 g2 => q_239 q (by have := k_230.lt; omega))
  have k_244 := k_231.kept (fun q g1 g2 => q_239 q (by have := k_231.lt; omega))
  have k_245 := k_232.kept (fun q g1 g2 => q_239 q (by have := k_232.lt; omega))
  have k_246 := k_233.kept (fun q g1 g2 => q_239 q (by have := k_233.lt; omega))
  have k_247 := k_234.kept (fun q g1 g2 => q_239 q (by have := k_234.lt; omega))
  have k_248 := p_224.kept (q_239 _ (by have := p_224.lt; omega))
  have s_249 : H_236.size = x + 126 := z_238
  clear k_227 k_228 k_229 k_230 k_231 k_232 k_233 k_234 p_224 z_238 q_239 s_235
  show X _ _ _ _ 125 2994 _ _ _ [.ref (x + 125), .ref x] _
  refine x_dup ho d_MW_init_109 rfl ?_
  refine x_callIN (host := "MorphWords") (rest := [.ref (x + 125), .ref x]) ho d_MW_init_110 yv_PW_init rfl g_168 (List.mem_of_getElem? (i := 2) rfl) (c_PW_init M.2.1 D (x + 125) ) rfl rfl ⟨Nat.le_of_ble_eq_true rfl, Nat.le_of_ble_eq_true rfl⟩ ⟨Nat.le_of_ble_eq_true rfl, Nat.le_of_ble_eq_true rfl⟩ rfl rfl (Nat.le_of_ble_eq_true rfl) ⟨p_237, (show H_236.size = (x + 125) + 1 by omega)⟩ (rA_sub (by omega) (by omega)) (fun v_250 H_252 hv_250 f_251 => ?_)
  have k_253 := k_240.kept (fun q g1 g2 => f_251.2 q (by have := k_240.lt; omega) (rA_no (by omega)))
  have k_254 := k_241.kept (fun q g1 g2 => f_251.2 q (by have := k_241.lt; omega) (rA_no (by omega)))
  have k_255 := k_242.kept (fun q g1 g2 => f_251.2 q (by have := k_242.lt; omega) (rA_no (by omega)))
  have k_256 := k_243.kept (fun q g1 g2 => f_251.2 q (by have := k_243.lt; omega) (rA_no (by omega)))
  have k_257 := k_244.kept (fun q g1 g2 => f_251.2 q (by have := k_244.lt; omega) (rA_no (by omega)))
  have k_258 := k_245.kept (fun q g1 g2 => f_251.2 q (by have := k_245.lt; omega) (rA_no (by omega)))
  have k_259 := k_246.kept (fun q g1 g2 => f_251.2 q (by have := k_246.lt; omega) (rA_no (by omega)))
  have k_260 := k_247.kept (fun q g1 g2 => f_251.2 q (by have := k_247.lt; omega) (rA_no (by omega)))
  have k_261 := k_248.kept (f_251.2 _ k_248.lt (rA_no (by omega)))
  have s_262 : H_252.size = x + 128 := by have := f_251.1; omega
  clear k_240 k_241 k_242 k_243 k_244 k_245 k_246 k_247 k_248 p_237 s_249 f_251
  obtain ⟨rfl, t_n_263⟩ := hv_250
  show X _ _ _ _ 127 3002 _ _ _ [.ref (x + 125), .ref x] _
  refine x_putF 9 ho hnm d_MW_init_113 cl_MW (by decide) g_251 k_261 rfl rfl rfl rfl (Nat.le_of_ble_eq_true rfl) (rA_in (by omega) (by omega)) (fun H_264 p_265 z_266 q_267 => ?_)
  have k_268 := k_253.kept (fun q g1 g2 => q_267 q (by omega))
  have k_269 := k_254.kept (fun q g1 g2 => q_267 q (by omega))
  have k_270 := k_255.kept (fun q g1 g2 => q_267 q (by omega))
  have k_271 := k_256.kept (fun q g1 g2 => q_267 q (by omega))
  have k_272 := k_257.kept (fun q g1 g2 => q_267 q (by omega))
  have k_273 := k_258.kept (fun q g1 g2 => q_267 q (by omega))
  have k_274 := k_259.kept (fun q g1 g2 => q_267 q (by omega))
  have k_275 := k_260.kept (fun q g1 g2 => q_267 q (by omega))
  have k_276 := t_n_263.kept (fun q g1 g2 => q_267 q (by omega))
  have s_277 : H_264.size = x + 128 := z_266.trans s_262
  clear k_253 k_254 k_255 k_256 k_257 k_258 k_259 k_260 k_261 t_n_263 z_266 q_267 s_262
  refine x_aload_n ho 0 d_MW_init_116 rfl ?_
  refine x_new (fs := [.null, zV 0]) ho d_MW_init_117 cl_PT g_178 g_179 g_61 (by decide +kernel) (Nat.le_of_ble_eq_true rfl) (Nat.le_of_ble_eq_true rfl) s_277 (fun H_278 p_279 z_280 q_281 => ?_)
  have k_282 := k_268.kept (fun q g1 g2 => q_281 q (by have := k_268.lt; omega))
  have k_283 := k_269.kept (fun q g1 g2 => q_281 q (by have := k_269.lt; omega))
  have k_284 := k_270.kept (fun q g1 g2 => q_281 q (by have := k_270.lt; omega))
  have k_285 := k_271.kept (fun q g1 g2 => q_281 q (by have := k_271.lt; omega))
  have k_286 := k_272.kept (fun q g1 g2 => q_281 q (by have := k_272.lt; omega))
  have k_287 := k_273.kept (fun q g1 g2 => q_281 q (by have := k_273.lt; omega))
  have k_288 := k_274.kept (fun q g1 g2 => q_281 q (by have := k_274.lt; omega))
  have k_289 := k_275.kept (fun q g1 g2 => q_281 q (by have := k_275.lt; omega))
  have k_290 := k_276.kept (fun q g1 g2 => q_281 q (by have := k_276.lt; omega))
  have k_291 := p_265.kept (q_281 _ (by have := p_265.lt; omega))
  have s_292 : H_278.size = x + 129 := z_280
  clear k_268 k_269 k_270 k_271 k_272 k_273 k_274 k_275 k_276 p_265 z_280 q_281 s_277
  show X _ _ _ _ 128 3004 _ _ _ [.ref (x + 128), .ref x] _
  refine x_dup ho d_MW_init_120 rfl ?_
  refine x_callIN (host := "MorphWords") (rest := [.ref (x + 128), .ref x]) ho d_MW_init_121 yv_PT_init rfl g_180 (List.mem_of_getElem? (i := 3) rfl) (c_PT_init M.2.1 D (x + 128) ) rfl rfl ⟨Nat.le_of_ble_eq_true rfl, Nat.le_of_ble_eq_true rfl⟩ ⟨Nat.le_of_ble_eq_true rfl, Nat.le_of_ble_eq_true rfl⟩ rfl rfl (Nat.le_of_ble_eq_true rfl) ⟨p_279, (show H_278.size = (x + 128) + 1 by omega)⟩ (rA_sub (by omega) (by omega)) (fun v_293 H_295 hv_293 f_294 => ?_)
  have k_296 := k_282.kept (fun q g1 g2 => f_294.2 q (by have := k_282.lt; omega) (rA_no (by omega)))
  have k_297 := k_283.kept (fun q g1 g2 => f_294.2 q (by have := k_283.lt; omega) (rA_no (by omega)))
  have k_298 := k_284.kept (fun q g1 g2 => f_294.2 q (by have := k_284.lt; omega) (rA_no (by omega)))
  have k_299 := k_285.kept (fun q g1 g2 => f_294.2 q (by have := k_285.lt; omega) (rA_no (by omega)))
  have k_300 := k_286.kept (fun q g1 g2 => f_294.2 q (by have := k_286.lt; omega) (rA_no (by omega)))
  have k_301 := k_287.kept (fun q g1 g2 => f_294.2 q (by have := k_287.lt; omega) (rA_no (by omega)))
  have k_302 := k_288.kept (fun q g1 g2 => f_294.2 q (by have := k_288.lt; omega) (rA_no (by omega)))
  have k_303 := k_289.kept (fun q g1 g2 => f_294.2 q (by have := k_289.lt; omega) (rA_no (by omega)))
  have k_304 := k_290.kept (fun q g1 g2 => f_294.2 q (by have := k_290.lt; omega) (rA_no (by omega)))
  have k_305 := k_291.kept (f_294.2 _ k_291.lt (rA_no (by omega)))
  have s_306 : H_295.size = x + 130 := by have := f_294.1; omega
  clear k_282 k_283 k_284 k_285 k_286 k_287 k_288 k_289 k_290 k_291 p_279 s_292 f_294
  obtain ⟨rfl, t_n_307⟩ := hv_293
  show X _ _ _ _ 129 3304 _ _ _ [.ref (x + 128), .ref x] _
  refine x_putF 10 ho hnm d_MW_init_124 cl_MW (by decide) g_252 k_305 rfl rfl rfl rfl (Nat.le_of_ble_eq_true rfl) (rA_in (by omega) (by omega)) (fun H_308 p_309 z_310 q_311 => ?_)
  have k_312 := k_296.kept (fun q g1 g2 => q_311 q (by omega))
  have k_313 := k_297.kept (fun q g1 g2 => q_311 q (by omega))
  have k_314 := k_298.kept (fun q g1 g2 => q_311 q (by omega))
  have k_315 := k_299.kept (fun q g1 g2 => q_311 q (by omega))
  have k_316 := k_300.kept (fun q g1 g2 => q_311 q (by omega))
  have k_317 := k_301.kept (fun q g1 g2 => q_311 q (by omega))
  have k_318 := k_302.kept (fun q g1 g2 => q_311 q (by omega))
  have k_319 := k_303.kept (fun q g1 g2 => q_311 q (by omega))
  have k_320 := k_304.kept (fun q g1 g2 => q_311 q (by omega))
  have k_321 := t_n_307.kept (fun q g1 g2 => q_311 q (by omega))
  have s_322 : H_308.size = x + 130 := z_310.trans s_306
  clear k_296 k_297 k_298 k_299 k_300 k_301 k_302 k_303 k_304 k_305 t_n_307 z_310 q_311 s_306
  refine x_aload_n ho 0 d_MW_init_127 rfl ?_
  refine x_new (fs := [zV 0, zV 0, zV 0]) ho d_MW_init_128 cl_GR g_191 g_192 g_62 (by decide +kernel) (Nat.le_of_ble_eq_true rfl) (Nat.le_of_ble_eq_true rfl) s_322 (fun H_323 p_324 z_325 q_326 => ?_)
  have k_327 := k_312.kept (fun q g1 g2 => q_326 q (by have := k_312.lt; omega))
  have k_328 := k_313.kept (fun q g1 g2 => q_326 q (by have := k_313.lt; omega))
  have k_329 := k_314.kept (fun q g1 g2 => q_326 q (by have := k_314.lt; omega))
  have k_330 := k_315.kept (fun q g1 g2 => q_326 q (by have := k_315.lt; omega))
  have k_331 := k_316.kept (fun q g1 g2 => q_326 q (by have := k_316.lt; omega))
  have k_332 := k_317.kept (fun q g1 g2 => q_326 q (by have := k_317.lt; omega))
  have k_333 := k_318.kept (fun q g1 g2 => q_326 q (by have := k_318.lt; omega))
  have k_334 := k_319.kept (fun q g1 g2 => q_326 q (by have := k_319.lt; omega))
  have k_335 := k_320.kept (fun q g1 g2 => q_326 q (by have := k_320.lt; omega))
  have k_336 := k_321.kept (fun q g1 g2 => q_326 q (by have := k_321.lt; omega))
  have k_337 := p_309.kept (q_326 _ (by have := p_309.lt; omega))
  have s_338 : H_323.size = x + 131 := z_325
  clear k_312 k_313 k_314 k_315 k_316 k_317 k_318 k_319 k_320 k_321 p_309 z_325 q_326 s_322
  show X _ _ _ _ 130 3307 _ _ _ [.ref (x + 130), .ref x] _
  refine x_dup ho d_MW_init_131 rfl ?_
  refine x_callIN (host := "MorphWords") (rest := [.ref (x + 130), .ref x]) ho d_MW_init_132 yv_GR_init rfl g_193 (List.mem_of_getElem? (i := 4) rfl) (c_GR_init M.2.1 D (x + 130) ) rfl rfl ⟨Nat.le_of_ble_eq_true rfl, Nat.le_of_ble_eq_true rfl⟩ ⟨Nat.le_of_ble_eq_true rfl, Nat.le_of_ble_eq_true rfl⟩ rfl rfl (Nat.le_of_ble_eq_true rfl) ⟨p_324, (show H_323.size = (x + 130) + 1 by omega)⟩ (rA_sub (by omega) (by omega)) (fun v_339 H_341 hv_339 f_340 => ?_)
  have k_342 := k_327.kept (fun q g1 g2 => f_340.2 q (by have := k_327.lt; omega) (rA_no (by omega)))
  have k_343 := k_328.kept (fun q g1 g2 => f_340.2 q (by have := k_328.lt; omega) (rA_no (by omega)))
  have k_344 := k_329.kept (fun q g1 g2 => f_340.2 q (by have := k_329.lt; omega) (rA_no (by omega)))
  have k_345 := k_330.kept (fun q g1 g2 => f_340.2 q (by have := k_330.lt; omega) (rA_no (by omega)))
  have k_346 := k_331.kept (fun q g1 g2 => f_340.2 q (by have := k_331.lt; omega) (rA_no (by omega)))
  have k_347 := k_332.kept (fun q g1 g2 => f_340.2 q (by have := k_332.lt; omega) (rA_no (by omega)))
  have k_348 := k_333.kept (fun q g1 g2 => f_340.2 q (by have := k_333.lt; omega) (rA_no (by omega)))
  have k_349 := k_334.kept (fun q g1 g2 => f_340.2 q (by have := k_334.lt; omega) (rA_no (by omega)))
  have k_350 := k_335.kept (fun q g1 g2 => f_340.2 q (by have := k_335.lt; omega) (rA_no (by omega)))
  have k_351 := k_336.kept (fun q g1 g2 => f_340.2 q (by have := k_336.lt; omega) (rA_no (by omega)))
  have k_352 := k_337.kept (f_340.2 _ k_337.lt (rA_no (by omega)))
  have s_353 : H_341.size = x + 131 := by have := f_340.1; omega
  clear k_327 k_328 k_329 k_330 k_331 k_332 k_333 k_334 k_335 k_336 k_337 p_324 s_338 f_340
  obtain ⟨rfl, t_n_354⟩ := hv_339
  show X _ _ _ _ 130 3307 _ _ _ [.ref (x + 130), .ref x] _
  refine x_putF 11 ho hnm d_MW_init_135 cl_MW (by decide) g_253 k_352 rfl rfl rfl rfl (Nat.le_of_ble_eq_true rfl) (rA_in (by omega) (by omega)) (fun H_355 p_356 z_357 q_358 => ?_)
  have k_359 := k_342.kept (fun q g1 g2 => q_358 q (by omega))
  have k_360 := k_343.kept (fun q g1 g2 => q_358 q (by omega))
  have k_361 := k_344.kept (fun q g1 g2 => q_358 q (by omega))
  have k_362 := k_345.kept (fun q g1 g2 => q_358 q (by omega))
  have k_363 := k_346.kept (fun q g1 g2 => q_358 q (by omega))
  have k_364 := k_347.kept (fun q g1 g2 => q_358 q (by omega))
  have k_365 := k_348.kept (fun q g1 g2 => q_358 q (by omega))
  have k_366 := k_349.kept (fun q g1 g2 => q_358 q (by omega))
  have k_367 := k_350.kept (fun q g1 g2 => q_358 q (by omega))
  have k_368 := k_351.kept (fun q g1 g2 => q_358 q (by omega))
  have k_369 := t_n_354.kept (fun q g1 g2 => q_358 q (by omega))
  have s_370 : H_355.size = x + 131 := z_357.trans s_353
  clear k_342 k_343 k_344 k_345 k_346 k_347 k_348 k_349 k_350 k_351 k_352 t_n_354 z_357 q_358 s_353
  refine x_aload_n ho 0 d_MW_init_138 rfl ?_
  refine x_new (fs := [zV 0, zV 0]) ho d_MW_init_139 cl_LM g_206 g_207 g_63 (by decide +kernel) (Nat.le_of_ble_eq_true rfl) (Nat.le_of_ble_eq_true rfl) s_370 (fun H_371 p_372 z_373 q_374 => ?_)
  have k_375 := k_359.kept (fun q g1 g2 => q_374 q (by have := k_359.lt; omega))
  have k_376 := k_360.kept (fun q g1 g2 => q_374 q (by have := k_360.lt; omega))
  have k_377 := k_361.kept (fun q g1 g2 => q_374 q (by have := k_361.lt; omega))
  have k_378 := k_362.kept (fun q g1 g2 => q_374 q (by have := k_362.lt; omega))
  have k_379 := k_363.kept (fun q g1 g2 => q_374 q (by have := k_363.lt; omega))
  have k_380 := k_364.kept (fun q g1 g2 => q_374 q (by have := k_364.lt; omega))
  have k_381 := k_365.kept (fun q g1 g2 => q_374 q (by have := k_365.lt; omega))
  have k_382 := k_366.kept (fun q g1 g2 => q_374 q (by have := k_366.lt; omega))
  have k_383 := k_367.kept (fun q g1 g2 => q_374 q (by have := k_367.lt; omega))
  have k_384 := k_368.kept (fun q g1 g2 => q_374 q (by have := k_368.lt; omega))
  have k_385 := k_369.kept (fun q g1 g2 => q_374 q (by have := k_369.lt; omega))
  have k_386 := p_356.kept (q_374 _ (by have := p_356.lt; omega))
  have s_387 : H_371.size = x + 132 := z_373
  clear k_359 k_360 k_361 k_362 k_363 k_364 k_365 k_366 k_367 k_368 k_369 p_356 z_373 q_374 s_370
  show X _ _ _ _ 131 3309 _ _ _ [.ref (x + 131), .ref x] _
  refine x_dup ho d_MW_init_142 rfl ?_
  refine x_callIN (host := "MorphWords") (rest := [.ref (x + 131), .ref x]) ho d_MW_init_143 yv_LM_init rfl g_208 (List.mem_of_getElem? (i := 5) rfl) (c_LM_init M.2.1 D (x + 131) ) rfl rfl ⟨Nat.le_of_ble_eq_true rfl, Nat.le_of_ble_eq_true rfl⟩ ⟨Nat.le_of_ble_eq_true rfl, Nat.le_of_ble_eq_true rfl⟩ rfl rfl (Nat.le_of_ble_eq_true rfl) ⟨p_372, (show H_371.size = (x + 131) + 1 by omega)⟩ (rA_sub (by omega) (by omega)) (fun v_388 H_390 hv_388 f_389 => ?_)
  have k_391 := k_375.kept (fun q g1 g2 => f_389.2 q (by have := k_375.lt; omega) (rA_no (by omega)))
  have k_392 := k_376.kept (fun q g1 g2 => f_389.2 q (by have := k_376.lt; omega) (rA_no (by omega)))
  have k_393 := k_377.kept (fun q g1 g2 => f_389.2 q (by have := k_377.lt; omega) (rA_no (by omega)))
  have k_394 := k_378.kept (fun q g1 g2 => f_389.2 q (by have := k_378.lt; omega) (rA_no (by omega)))
  have k_395 := k_379.kept (fun q g1 g2 => f_389.2 q (by have := k_379.lt; omega) (rA_no (by omega)))
  have k_396 := k_380.kept (fun q g1 g2 => f_389.2 q (by have := k_380.lt; omega) (rA_no (by omega)))
  have k_397 := k_381.kept (fun q g1 g2 => f_389.2 q (by have := k_381.lt; omega) (rA_no (by omega)))
  have k_398 := k_382.kept (fun q g1 g2 => f_389.2 q (by have := k_382.lt; omega) (rA_no (by omega)))
  have k_399 := k_383.kept (fun q g1 g2 => f_389.2 q (by have := k_383.lt; omega) (rA_no (by omega)))
  have k_400 := k_384.kept (fun q g1 g2 => f_389.2 q (by have := k_384.lt; omega) (rA_no (by omega)))
  have k_401 := k_385.kept (fun q g1 g2 => f_389.2 q (by have := k_385.lt; omega) (rA_no (by omega)))
  have k_402 := k_386.kept (f_389.2 _ k_386.lt (rA_no (by omega)))
  have s_403 : H_390.size = x + 132 := by have := f_389.1; omega
  clear k_375 k_376 k_377 k_378 k_379 k_380 k_381 k_382 k_383 k_384 k_385 k_386 p_372 s_387 f_389
  obtain ⟨rfl, t_n_404⟩ := hv_388
  show X _ _ _ _ 131 3309 _ _ _ [.ref (x + 131), .ref x] _
  refine x_putF 12 ho hnm d_MW_init_146 cl_MW (by decide) g_254 k_402 rfl rfl rfl rfl (Nat.le_of_ble_eq_true rfl) (rA_in (by omega) (by omega)) (fun H_405 p_406 z_407 q_408 => ?_)
  have k_409 := k_391.kept (fun q g1 g2 => q_408 q (by omega))
  have k_410 := k_392.kept (fun q g1 g2 => q_408 q (by omega))
  have k_411 := k_393.kept (fun q g1 g2 => q_408 q (by omega))
  have k_412 := k_394.kept (fun q g1 g2 => q_408 q (by omega))
  have k_413 := k_395.kept (fun q g1 g2 => q_408 q (by omega))
  have k_414 := k_396.kept (fun q g1 g2 => q_408 q (by omega))
  have k_415 := k_397.kept (fun q g1 g2 => q_408 q (by omega))
  have k_416 := k_398.kept (fun q g1 g2 => q_408 q (by omega))
  have k_417 := k_399.kept (fun q g1 g2 => q_408 q (by omega))
  have k_418 := k_400.kept (fun q g1 g2 => q_408 q (by omega))
  have k_419 := k_401.kept (fun q g1 g2 => q_408 q (by omega))
  have k_420 := t_n_404.kept (fun q g1 g2 => q_408 q (by omega))
  have s_421 : H_405.size = x + 132 := z_407.trans s_403
  clear k_391 k_392 k_393 k_394 k_395 k_396 k_397 k_398 k_399 k_400 k_401 k_402 t_n_404 z_407 q_408 s_403
  refine x_aload_n ho 0 d_MW_init_149 rfl ?_
  refine x_new (fs := [.null, zV 0, .null, .null, .null, zV 0]) ho d_MW_init_150 cl_RT g_218 g_219 g_64 (by decide +kernel) (Nat.le_of_ble_eq_true rfl) (Nat.le_of_ble_eq_true rfl) s_421 (fun H_422 p_423 z_424 q_425 => ?_)
  have k_426 := k_409.kept (fun q g1 g2 => q_425 q (by have := k_409.lt; omega))
  have k_427 := k_410.kept (fun q g1 g2 => q_425 q (by have := k_410.lt; omega))
  have k_428 := k_411.kept (fun q g1 g2 => q_425 q (by have := k_411.lt; omega))
  have k_429 := k_412.kept (fun q g1 g2 => q_425 q (by have := k_412.lt; omega))
  have k_430 := k_413.kept (fun q g1 g2 => q_425 q (by have := k_413.lt; omega))
  have k_431 := k_414.kept (fun q g1 g2 => q_425 q (by have := k_414.lt; omega))
  have k_432 := k_415.kept (fun q g1 g2 => q_425 q (by have := k_415.lt; omega))
  have k_433 := k_416.kept (fun q g1 g2 => q_425 q (by have := k_416.lt; omega))
  have k_434 := k_417.kept (fun q g1 g2 => q_425 q (by have := k_417.lt; omega))
  have k_435 := k_418.kept (fun q g1 g2 => q_425 q (by have := k_418.lt; omega))
  have k_436 := k_419.kept (fun q g1 g2 => q_425 q (by have := k_419.lt; omega))
  have k_437 := k_420.kept (fun q g1 g2 => q_425 q (by have := k_420.lt; omega))
  have k_438 := p_406.kept (q_425 _ (by have := p_406.lt; omega))
  have s_439 : H_422.size = x + 133 := z_424
  clear k_409 k_410 k_411 k_412 k_413 k_414 k_415 k_416 k_417 k_418 k_419 k_420 p_406 z_424 q_425 s_421
  show X _ _ _ _ 132 3315 _ _ _ [.ref (x + 132), .ref x] _
  refine x_dup ho d_MW_init_153 rfl ?_
  refine x_callIN (host := "MorphWords") (rest := [.ref (x + 132), .ref x]) ho d_MW_init_154 yv_RT_init rfl g_220 (List.mem_of_getElem? (i := 6) rfl) (c_RT_init M.2.1 D (x + 132) ) rfl rfl ⟨Nat.le_of_ble_eq_true rfl, Nat.le_of_ble_eq_true rfl⟩ ⟨Nat.le_of_ble_eq_true rfl, Nat.le_of_ble_eq_true rfl⟩ rfl rfl (Nat.le_of_ble_eq_true rfl) ⟨p_423, (show H_422.size = (x + 132) + 1 by omega)⟩ (rA_sub (by omega) (by omega)) (fun v_440 H_442 hv_440 f_441 => ?_)
  have k_443 := k_426.kept (fun q g1 g2 => f_441.2 q (by have := k_426.lt; omega) (rA_no (by omega)))
  have k_444 := k_427.kept (fun q g1 g2 => f_441.2 q (by have := k_427.lt; omega) (rA_no (by omega)))
  have k_445 := k_428.kept (fun q g1 g2 => f_441.2 q (by have := k_428.lt; omega) (rA_no (by omega)))
  have k_446 := k_429.kept (fun q g1 g2 => f_441.2 q (by have := k_429.lt; omega) (rA_no (by omega)))
  have k_447 := k_430.kept (fun q g1 g2 => f_441.2 q (by have := k_430.lt; omega) (rA_no (by omega)))
  have k_448 := k_431.kept (fun q g1 g2 => f_441.2 q (by have := k_431.lt; omega) (rA_no (by omega)))
  have k_449 := k_432.kept (fun q g1 g2 => f_441.2 q (by have := k_432.lt; omega) (rA_no (by omega)))
  have k_450 := k_433.kept (fun q g1 g2 => f_441.2 q (by have := k_433.lt; omega) (rA_no (by omega)))
  have k_451 := k_434.kept (fun q g1 g2 => f_441.2 q (by have := k_434.lt; omega) (rA_no (by omega)))
  have k_452 := k_435.kept (fun q g1 g2 => f_441.2 q (by have := k_435.lt; omega) (rA_no (by omega)))
  have k_453 := k_436.kept (fun q g1 g2 => f_441.2 q (by have := k_436.lt; omega) (rA_no (by omega)))
  have k_454 := k_437.kept (fun q g1 g2 => f_441.2 q (by have := k_437.lt; omega) (rA_no (by omega)))
  have k_455 := k_438.kept (f_441.2 _ k_438.lt (rA_no (by omega)))
  have s_456 : H_442.size = x + 137 := by have := f_441.1; omega
  clear k_426 k_427 k_428 k_429 k_430 k_431 k_432 k_433 k_434 k_435 k_436 k_437 k_438 p_423 s_439 f_441
  obtain ⟨rfl, t_n_457⟩ := hv_440
  show X _ _ _ _ 136 4515 _ _ _ [.ref (x + 132), .ref x] _
  refine x_putF 13 ho hnm d_MW_init_157 cl_MW (by decide) g_255 k_455 rfl rfl rfl rfl (Nat.le_of_ble_eq_true rfl) (rA_in (by omega) (by omega)) (fun H_458 p_459 z_460 q_461 => ?_)
  have k_462 := k_443.kept (fun q g1 g2 => q_461 q (by omega))
  have k_463 := k_444.kept (fun q g1 g2 => q_461 q (by omega))
  have k_464 := k_445.kept (fun q g1 g2 => q_461 q (by omega))
  have k_465 := k_446.kept (fun q g1 g2 => q_461 q (by omega))
  have k_466 := k_447.kept (fun q g1 g2 => q_461 q (by omega))
  have k_467 := k_448.kept (fun q g1 g2 => q_461 q (by omega))
  have k_468 := k_449.kept (fun q g1 g2 => q_461 q (by omega))
  have k_469 := k_450.kept (fun q g1 g2 => q_461 q (by omega))
  have k_470 := k_451.kept (fun q g1 g2 => q_461 q (by omega))
  have k_471 := k_452.kept (fun q g1 g2 => q_461 q (by omega))
  have k_472 := k_453.kept (fun q g1 g2 => q_461 q (by omega))
  have k_473 := k_454.kept (fun q g1 g2 => q_461 q (by omega))
  have k_474 := t_n_457.kept (fun q g1 g2 => q_461 q (by omega))
  have s_475 : H_458.size = x + 137 := z_460.trans s_456
  clear k_443 k_444 k_445 k_446 k_447 k_448 k_449 k_450 k_451 k_452 k_453 k_454 k_455 t_n_457 z_460 q_461 s_456
  obtain ⟨b_o, ⟨b_p, b_R⟩, b_w, b_k⟩ := id k_462
  refine x_vret ho hr d_MW_init_160 ?_
  exact ⟨rfl, isW_mk p_459 b_o b_R b_w b_k k_463 k_464 k_465 k_466 k_467 k_468 k_469 k_470 k_471 k_472 k_473 k_474 gdW0⟩
