def q_RT_found (D : GG) (o : Nat) (os : List Int) (N : List Int) (F : List Int) : Option Value → Heap → Prop := fun v0 H => v0 = some (zV ((os.length : Int))) ∧ (os.length : Int) ≤ 300
theorem yv_RT_found : Yv y_RT_found b_RT_found 1 (Option.some FieldType.int) 0 := ⟨g_501, g_64, by decide, by decide +kernel⟩
set_option maxHeartbeats 4000000 in
set_option maxRecDepth 100000 in
theorem c_RT_found (l0 : Launch) (D : GG) (o : Nat) (os : List Int) (N : List Int) (F : List Int)  : Ct l0 D y_RT_found b_RT_found 1 (Option.some FieldType.int) ({ frames := 0, cells := 0, slots := 0, locals := 0 } : Room) [.ref o] (fun H => isRT D H o os N F) nA 0 0 (q_RT_found D o os N F) := by
  refine Ct.of (L := [(0, .ref o)]) (by decide) (Nat.le_of_ble_eq_true rfl) rfl (fun M H ho hr hnm hH hpre => ?_)
  have hT := hpre
  obtain ⟨h_o, P, S, Q, T, h_p, h_s, h_q, h_t, e1, e2, e3, e4, e5, e6, e7, e8, e9, e10⟩ := id hT
  refine x_aload_n ho 0 d_RT_found_0 rfl ?_
  refine x_get 1 ho d_RT_found_1 cl_RT (by decide) g_224 hT.1 rfl ?_
  refine x_iret ho hr d_RT_found_4 ?_
  exact ⟨rfl, (by omega)⟩
def q_RT_different (D : GG) (o : Nat) (os : List Int) (N : List Int) (F : List Int) : Option Value → Heap → Prop := fun v0 H => v0 = some (zV ((F.length : Int))) ∧ (F.length : Int) ≤ 300
theorem yv_RT_different : Yv y_RT_different b_RT_different 1 (Option.some FieldType.int) 0 := ⟨g_485, g_64, by decide, by decide +kernel⟩
set_option maxHeartbeats 4000000 in
set_option maxRecDepth 100000 in
theorem c_RT_different (l0 : Launch) (D : GG) (o : Nat) (os : List Int) (N : List Int) (F : List Int)  : Ct l0 D y_RT_different b_RT_different 1 (Option.some FieldType.int) ({ frames := 0, cells := 0, slots := 0, locals := 0 } : Room) [.ref o] (fun H => isRT D H o os N F) nA 0 0 (q_RT_different D o os N F) := by
  refine Ct.of (L := [(0, .ref o)]) (by decide) (Nat.le_of_ble_eq_true rfl) rfl (fun M H ho hr hnm hH hpre => ?_)
  have hT := hpre
  obtain ⟨h_o, P, S, Q, T, h_p, h_s, h_q, h_t, e1, e2, e3, e4, e5, e6, e7, e8, e9, e10⟩ := id hT
  refine x_aload_n ho 0 d_RT_different_0 rfl ?_
  refine x_get 5 ho d_RT_different_1 cl_RT (by decide) g_228 hT.1 rfl ?_
  refine x_iret ho hr d_RT_different_4 ?_
  exact ⟨rfl, (by omega)⟩
def q_RT_placeOf (D : GG) (o : Nat) (os : List Int) (N : List Int) (F : List Int) (z : Int) : Option Value → Heap → Prop := fun v0 H => v0 = some (zV (plc os z)) ∧ (0 ≤ plc os z ∧ plc os z < 300)
theorem yv_RT_placeOf : Yv y_RT_placeOf b_RT_placeOf 2 (Option.some FieldType.int) 1 := ⟨g_476, g_64, by decide, by decide +kernel⟩
set_option maxHeartbeats 4000000 in
set_option maxRecDepth 100000 in
theorem c_RT_placeOf (l0 : Launch) (D : GG) (o : Nat) (os : List Int) (N : List Int) (F : List Int) (z : Int) (hz : -2147483648 ≤ z ∧ z ≤ 2147483647) : Ct l0 D y_RT_placeOf b_RT_placeOf 2 (Option.some FieldType.int) ({ frames := 0, cells := 0, slots := 0, locals := 0 } : Room) [.ref o, zV z] (fun H => isRT D H o os N F) nA 0 0 (q_RT_placeOf D o os N F z) := by
  refine Ct.of (L := [(0, .ref o), (1, zV z)]) (by decide) (Nat.le_of_ble_eq_true rfl) rfl (fun M H ho hr hnm hH hpre => ?_)
  have hT := hpre
  obtain ⟨h_o, P, S, Q, T, h_p, h_s, h_q, h_t, e1, e2, e3, e4, e5, e6, e7, e8, e9, e10⟩ := id hT
  refine x_iload_n ho 1 d_RT_placeOf_0 rfl ?_
  refine x_if_lt (tgt := 21) ho d_RT_placeOf_1 (by decide) (by omega) (fun c_1 => ?_) (fun c_1 => ?_)
  ·
    refine x_iconst ho d_RT_placeOf_21 ?_
    refine x_iret ho hr d_RT_placeOf_22 ?_
    have e : plc os z = 0 := if_neg (by omega)
    exact ⟨by rw [e], by omega⟩
  ·
    refine x_iload_n ho 1 d_RT_placeOf_4 rfl ?_
    refine x_aload_n ho 0 d_RT_placeOf_5 rfl ?_
    refine x_get 1 ho d_RT_placeOf_6 cl_RT (by decide) g_224 hT.1 rfl ?_
    refine x_icmp_ge (tgt := 21) ho d_RT_placeOf_9 (by decide) (by omega) (by omega) (fun c_9 => ?_) (fun c_9 => ?_)
    ·
      refine x_iconst ho d_RT_placeOf_21 ?_
      refine x_iret ho hr d_RT_placeOf_22 ?_
      have e : plc os z = 0 := if_neg (by omega)
      exact ⟨by rw [e], by omega⟩
    ·
      refine x_aload_n ho 0 d_RT_placeOf_12 rfl ?_
      refine x_get 0 ho d_RT_placeOf_13 cl_RT (by decide) g_223 hT.1 rfl ?_
      refine x_iload_n ho 1 d_RT_placeOf_16 rfl ?_
      refine x_iald ho d_RT_placeOf_17 h_p (by omega) (by omega) (by omega) ?_
      refine x_eqI (b := gA os z) (by exact e1 _ (by omega) (by omega)) ?_
      refine x_goto (tgt := 22) ho d_RT_placeOf_18 (by decide) ?_
      refine x_iret ho hr d_RT_placeOf_22 ?_
      have e : plc os z = gA os z := if_pos (by omega)
      have := gA_m e5 (z := z) (by omega) (by omega)
      exact ⟨by rw [e], by omega⟩
def q_RT_rowLength (D : GG) (o : Nat) (os : List Int) (N : List Int) (F : List Int) : Option Value → Heap → Prop := fun v0 H => v0 = some (zV (rl os)) ∧ (0 ≤ rl os ∧ rl os < 300 ∧ rl os ≤ (os.length : Int))
theorem yv_RT_rowLength : Yv y_RT_rowLength b_RT_rowLength 1 (Option.some FieldType.int) 0 := ⟨g_462, g_64, by decide, by decide +kernel⟩
set_option maxHeartbeats 4000000 in
set_option maxRecDepth 100000 in
theorem c_RT_rowLength (l0 : Launch) (D : GG) (o : Nat) (os : List Int) (N : List Int) (F : List Int)  : Ct l0 D y_RT_rowLength b_RT_rowLength 1 (Option.some FieldType.int) ({ frames := 1, cells := 0, slots := 0, locals := 21 } : Room) [.ref o] (fun H => isRT D H o os N F) nA 0 0 (q_RT_rowLength D o os N F) := by
  refine Ct.of (L := [(0, .ref o)]) (by decide) (Nat.le_of_ble_eq_true rfl) rfl (fun M H ho hr hnm hH hpre => ?_)
  have hT := hpre
  obtain ⟨h_o, P, S, Q, T, h_p, h_s, h_q, h_t, e1, e2, e3, e4, e5, e6, e7, e8, e9, e10⟩ := id hT
  refine x_aload_n ho 0 d_RT_rowLength_0 rfl ?_
  refine x_get 1 ho d_RT_rowLength_1 cl_RT (by decide) g_224 hT.1 rfl ?_
  refine x_iconst ho d_RT_rowLength_4 ?_
  refine x_isub ho d_RT_rowLength_5 ?_
  refine x_iconst ho d_RT_rowLength_6 ?_
  refine x_mmax ho d_RT_rowLength_7 g_463 (by omega) (by omega) (Nat.le_of_ble_eq_true rfl) (Nat.le_of_ble_eq_true rfl) (Nat.zero_le _) (Nat.zero_le _) ?_
  refine x_iret ho hr d_RT_rowLength_10 ?_
  exact ⟨rfl, by unfold rl; split <;> omega⟩
def q_RT_spanOf (D : GG) (o : Nat) (os : List Int) (N : List Int) (F : List Int) (z : Int) : Option Value → Heap → Prop := fun v0 H => v0 = some (zV (gap os z)) ∧ (-300 ≤ gap os z ∧ gap os z ≤ 300)
theorem yv_RT_spanOf : Yv y_RT_spanOf b_RT_spanOf 2 (Option.some FieldType.int) 1 := ⟨g_472, g_64, by decide, by decide +kernel⟩
set_option maxHeartbeats 4000000 in
set_option maxRecDepth 100000 in
theorem c_RT_spanOf (l0 : Launch) (D : GG) (o : Nat) (os : List Int) (N : List Int) (F : List Int) (z : Int) (hz : 0 ≤ z ∧ z + 1 < (os.length : Int)) : Ct l0 D y_RT_spanOf b_RT_spanOf 2 (Option.some FieldType.int) ({ frames := 1, cells := 0, slots := 0, locals := 21 } : Room) [.ref o, zV z] (fun H => isRT D H o os N F) nA 0 0 (q_RT_spanOf D o os N F z) := by
  refine Ct.of (L := [(0, .ref o), (1, zV z)]) (by decide) (Nat.le_of_ble_eq_true rfl) rfl (fun M H ho hr hnm hH hpre => ?_)
  have hT := hpre
  have hob := hT.os.2
  refine x_aload_n ho 0 d_RT_spanOf_0 rfl ?_
  refine x_iload_n ho 1 d_RT_spanOf_1 rfl ?_
  refine x_iconst ho d_RT_spanOf_2 ?_
  refine x_iadd ho d_RT_spanOf_3 ?_
  refine x_callV (rest := []) ho d_RT_spanOf_4 yv_RT_placeOf g_474 g_475 g_473 (c_RT_placeOf M.2.1 D o os N F (z + 1) (by omega)) rfl rfl ⟨Nat.le_of_ble_eq_true rfl, Nat.le_of_ble_eq_true rfl⟩ ⟨Nat.le_of_ble_eq_true rfl, Nat.le_of_ble_eq_true rfl⟩ rfl rfl (Nat.le_of_ble_eq_true rfl) hT.1 rfl rfl hT fr_none' (x_rd (fun v_1 hv_1 => ?_))
  obtain ⟨rfl, hb_3⟩ := hv_1
  show X _ _ _ _ _ _ _ _ _ [zV (plc os (z + 1))] _
  refine x_aload_n ho 0 d_RT_spanOf_7 rfl ?_
  refine x_iload_n ho 1 d_RT_spanOf_8 rfl ?_
  refine x_callV (rest := [zV (plc os (z + 1))]) ho d_RT_spanOf_9 yv_RT_placeOf g_474 g_475 g_473 (c_RT_placeOf M.2.1 D o os N F z (by omega)) rfl rfl ⟨Nat.le_of_ble_eq_true rfl, Nat.le_of_ble_eq_true rfl⟩ ⟨Nat.le_of_ble_eq_true rfl, Nat.le_of_ble_eq_true rfl⟩ rfl rfl (Nat.le_of_ble_eq_true rfl) hT.1 rfl rfl hT fr_none' (x_rd (fun v_4 hv_4 => ?_))
  obtain ⟨rfl, hb_6⟩ := hv_4
  show X _ _ _ _ _ _ _ _ _ [zV (plc os z), zV (plc os (z + 1))] _
  refine x_isub ho d_RT_spanOf_12 ?_
  refine x_iret ho hr d_RT_spanOf_13 ?_
  have g1 : plc os (z + 1) = gA os (z + 1) := if_pos (by omega)
  have g2 : plc os z = gA os z := if_pos (by omega)
  exact ⟨by rw [g1, g2]; rfl, by unfold gap; omega⟩
def q_RT_isReturn (D : GG) (o : Nat) (os : List Int) (N : List Int) (F : List Int) (z : Int) : Option Value → Heap → Prop := fun v0 H => (v0 = some (zV (bI (0 ≤ z ∧ z < (F.length : Int)))))
theorem yv_RT_isReturn : Yv y_RT_isReturn b_RT_isReturn 2 (Option.some FieldType.boolean) 1 := ⟨g_731, g_64, by decide, by decide +kernel⟩
set_option maxHeartbeats 4000000 in
set_option maxRecDepth 100000 in
theorem c_RT_isReturn (l0 : Launch) (D : GG) (o : Nat) (os : List Int) (N : List Int) (F : List Int) (z : Int) (hz : -2147483648 ≤ z ∧ z ≤ 2147483647) : Ct l0 D y_RT_isReturn b_RT_isReturn 2 (Option.some FieldType.boolean) ({ frames := 0, cells := 0, slots := 0, locals := 0 } : Room) [.ref o, zV z] (fun H => isRT D H o os N F) nA 0 0 (q_RT_isReturn D o os N F z) := by
  refine Ct.of (L := [(0, .ref o), (1, zV z)]) (by decide) (Nat.le_of_ble_eq_true rfl) rfl (fun M H ho hr hnm hH hpre => ?_)
  have hT := hpre
  obtain ⟨h_o, P, S, Q, T, h_p, h_s, h_q, h_t, e1, e2, e3, e4, e5, e6, e7, e8, e9, e10⟩ := id hT
  refine x_iload_n ho 1 d_RT_isReturn_0 rfl ?_
  refine x_if_lt (tgt := 16) ho d_RT_isReturn_1 (by decide) (by omega) (fun c_1 => ?_) (fun c_1 => ?_)
  ·
    refine x_iconst ho d_RT_isReturn_16 ?_
    refine x_zret ho hr (Or.inl rfl) d_RT_isReturn_17 ?_
    exact rF (by omega)
  ·
    refine x_iload_n ho 1 d_RT_isReturn_4 rfl ?_
    refine x_aload_n ho 0 d_RT_isReturn_5 rfl ?_
    refine x_get 5 ho d_RT_isReturn_6 cl_RT (by decide) g_228 hT.1 rfl ?_
    refine x_icmp_ge (tgt := 16) ho d_RT_isReturn_9 (by decide) (by omega) (by omega) (fun c_9 => ?_) (fun c_9 => ?_)
    ·
      refine x_iconst ho d_RT_isReturn_16 ?_
      refine x_zret ho hr (Or.inl rfl) d_RT_isReturn_17 ?_
      exact rF (by omega)
    ·
      refine x_iconst ho d_RT_isReturn_12 ?_
      refine x_goto (tgt := 17) ho d_RT_isReturn_13 (by decide) ?_
      refine x_zret ho hr (Or.inr rfl) d_RT_isReturn_17 ?_
      exact rT (by omega)
def q_RT_numberAt (D : GG) (o : Nat) (os : List Int) (N : List Int) (F : List Int) (z : Int) : Option Value → Heap → Prop := fun v0 H => v0 = some (zV (gA N z)) ∧ (0 ≤ gA N z ∧ gA N z < (F.length : Int))
theorem yv_RT_numberAt : Yv y_RT_numberAt b_RT_numberAt 2 (Option.some FieldType.int) 1 := ⟨g_489, g_64, by decide, by decide +kernel⟩
set_option maxHeartbeats 4000000 in
set_option maxRecDepth 100000 in
theorem c_RT_numberAt (l0 : Launch) (D : GG) (o : Nat) (os : List Int) (N : List Int) (F : List Int) (z : Int) (hz : 0 ≤ z ∧ z < (N.length : Int) ∧ z < rl os) : Ct l0 D y_RT_numberAt b_RT_numberAt 2 (Option.some FieldType.int) ({ frames := 2, cells := 0, slots := 0, locals := 41 } : Room) [.ref o, zV z] (fun H => isRT D H o os N F) nA 0 0 (q_RT_numberAt D o os N F z) := by
  refine Ct.of (L := [(0, .ref o), (1, zV z)]) (by decide) (Nat.le_of_ble_eq_true rfl) rfl (fun M H ho hr hnm hH hpre => ?_)
  have hT := hpre
  obtain ⟨h_o, P, S, Q, T, h_p, h_s, h_q, h_t, e1, e2, e3, e4, e5, e6, e7, e8, e9, e10⟩ := id hT
  refine x_iload_n ho 1 d_RT_numberAt_0 rfl ?_
  refine x_if_lt (tgt := 21) ho d_RT_numberAt_1 (by decide) (by omega) (fun c_1 => ?_) (fun c_1 => ?_)
  ·
    omega
  ·
    refine x_iload_n ho 1 d_RT_numberAt_4 rfl ?_
    refine x_aload_n ho 0 d_RT_numberAt_5 rfl ?_
    refine x_callV (rest := [zV z]) ho d_RT_numberAt_6 yv_RT_rowLength g_460 g_461 g_459 (c_RT_rowLength M.2.1 D o os N F ) rfl rfl ⟨Nat.le_of_ble_eq_true rfl, Nat.le_of_ble_eq_true rfl⟩ ⟨Nat.le_of_ble_eq_true rfl, Nat.le_of_ble_eq_true rfl⟩ rfl rfl (Nat.le_of_ble_eq_true rfl) hT.1 rfl rfl hT fr_none' (x_rd (fun v_1 hv_1 => ?_))
    obtain ⟨rfl, hb_3⟩ := hv_1
    show X _ _ _ _ _ _ _ _ _ [zV (rl os), zV z] _
    refine x_icmp_ge (tgt := 21) ho d_RT_numberAt_9 (by decide) (by omega) (by omega) (fun c_9 => ?_) (fun c_9 => ?_)
    ·
      omega
    ·
      refine x_aload_n ho 0 d_RT_numberAt_12 rfl ?_
      refine x_get 2 ho d_RT_numberAt_13 cl_RT (by decide) g_225 hT.1 rfl ?_
      refine x_iload_n ho 1 d_RT_numberAt_16 rfl ?_
      refine x_iald ho d_RT_numberAt_17 h_s (by omega) (by omega) (by omega) ?_
      refine x_eqI (b := gA N z) (by exact e2 _ (by omega) (by omega)) ?_
      refine x_goto (tgt := 22) ho d_RT_numberAt_18 (by decide) ?_
      refine x_iret ho hr d_RT_numberAt_22 ?_
      exact ⟨rfl, (by exact gA_m e6 (by omega) (by omega))⟩
def q_RT_lengthOf (D : GG) (o : Nat) (os : List Int) (N : List Int) (F : List Int) (z : Int) : Option Value → Heap → Prop := fun v0 H => v0 = some (zV (gap os (gA F z)))
theorem yv_RT_lengthOf : Yv y_RT_lengthOf b_RT_lengthOf 2 (Option.some FieldType.int) 1 := ⟨g_728, g_64, by decide, by decide +kernel⟩
set_option maxHeartbeats 4000000 in
set_option maxRecDepth 100000 in
theorem c_RT_lengthOf (l0 : Launch) (D : GG) (o : Nat) (os : List Int) (N : List Int) (F : List Int) (z : Int) (hz : 0 ≤ z ∧ z < (F.length : Int)) (hos : ∀ x ∈ F, x + 1 < (os.length : Int)) : Ct l0 D y_RT_lengthOf b_RT_lengthOf 2 (Option.some FieldType.int) ({ frames := 2, cells := 0, slots := 0, locals := 42 } : Room) [.ref o, zV z] (fun H => isRT D H o os N F) nA 0 0 (q_RT_lengthOf D o os N F z) := by
  refine Ct.of (L := [(0, .ref o), (1, zV z)]) (by decide) (Nat.le_of_ble_eq_true rfl) rfl (fun M H ho hr hnm hH hpre => ?_)
  have hT := hpre
  obtain ⟨h_o, P, S, Q, T, h_p, h_s, h_q, h_t, e1, e2, e3, e4, e5, e6, e7, e8, e9, e10⟩ := id hT
  refine x_aload_n ho 0 d_RT_lengthOf_0 rfl ?_
  refine x_iload_n ho 1 d_RT_lengthOf_1 rfl ?_
  refine x_callV (rest := []) ho d_RT_lengthOf_2 yv_RT_isReturn g_730 g_20 g_729 (c_RT_isReturn M.2.1 D o os N F z (by omega)) rfl rfl ⟨Nat.le_of_ble_eq_true rfl, Nat.le_of_ble_eq_true rfl⟩ ⟨Nat.le_of_ble_eq_true rfl, Nat.le_of_ble_eq_true rfl⟩ rfl rfl (Nat.le_of_ble_eq_true rfl) hT.1 rfl rfl hT fr_none' (x_rd (fun v_1 hv_1 => ?_))
  obtain rfl := hv_1
  show X _ _ _ _ _ _ _ _ _ [zV (bI (0 ≤ z ∧ z < (F.length : Int)))] _
  refine x_if_eqB (tgt := 21) ho d_RT_lengthOf_5 (by decide) (fun c_5 => ?_) (fun c_5 => ?_)
  ·
    exact absurd hz c_5
  ·
    refine x_aload_n ho 0 d_RT_lengthOf_8 rfl ?_
    refine x_aload_n ho 0 d_RT_lengthOf_9 rfl ?_
    refine x_get 3 ho d_RT_lengthOf_10 cl_RT (by decide) g_226 hT.1 rfl ?_
    refine x_iload_n ho 1 d_RT_lengthOf_13 rfl ?_
    refine x_iald ho d_RT_lengthOf_14 h_q (by omega) (by omega) (by omega) ?_
    refine x_eqI (b := gA F z) (by exact e3 _ (by omega) (by omega)) ?_
    have g1 := gA_m e7 (z := z) (by omega) (by omega)
    have g2 := gA_m hos (z := z) (by omega) (by omega)
    refine x_callV (rest := []) ho d_RT_lengthOf_15 yv_RT_spanOf g_471 g_8 g_470 (c_RT_spanOf M.2.1 D o os N F (gA F z) (by omega)) rfl rfl ⟨Nat.le_of_ble_eq_true rfl, Nat.le_of_ble_eq_true rfl⟩ ⟨Nat.le_of_ble_eq_true rfl, Nat.le_of_ble_eq_true rfl⟩ rfl rfl (Nat.le_of_ble_eq_true rfl) hT.1 rfl rfl hT fr_none' (x_rd (fun v_3 hv_3 => ?_))
    obtain ⟨rfl, hb_5⟩ := hv_3
    show X _ _ _ _ _ _ _ _ _ [zV (gap os (gA F z))] _
    refine x_goto (tgt := 22) ho d_RT_lengthOf_18 (by decide) ?_
    refine x_iret ho hr d_RT_lengthOf_22 ?_
    exact rfl
def q_RT_firstPlaceOf (D : GG) (o : Nat) (os : List Int) (N : List Int) (F : List Int) (z : Int) : Option Value → Heap → Prop := fun v0 H => v0 = some (zV (gA os (gA F z)))
theorem yv_RT_firstPlaceOf : Yv y_RT_firstPlaceOf b_RT_firstPlaceOf 2 (Option.some FieldType.int) 1 := ⟨g_735, g_64, by decide, by decide +kernel⟩
set_option maxHeartbeats 4000000 in
set_option maxRecDepth 100000 in
theorem c_RT_firstPlaceOf (l0 : Launch) (D : GG) (o : Nat) (os : List Int) (N : List Int) (F : List Int) (z : Int) (hz : 0 ≤ z ∧ z < (F.length : Int)) (hos : ∀ x ∈ F, x + 1 < (os.length : Int)) : Ct l0 D y_RT_firstPlaceOf b_RT_firstPlaceOf 2 (Option.some FieldType.int) ({ frames := 1, cells := 0, slots := 0, locals := 21 } : Room) [.ref o, zV z] (fun H => isRT D H o os N F) nA 0 0 (q_RT_firstPlaceOf D o os N F z) := by
  refine Ct.of (L := [(0, .ref o), (1, zV z)]) (by decide) (Nat.le_of_ble_eq_true rfl) rfl (fun M H ho hr hnm hH hpre => ?_)
  have hT := hpre
  obtain ⟨h_o, P, S, Q, T, h_p, h_s, h_q, h_t, e1, e2, e3, e4, e5, e6, e7, e8, e9, e10⟩ := id hT
  refine x_aload_n ho 0 d_RT_firstPlaceOf_0 rfl ?_
  refine x_iload_n ho 1 d_RT_firstPlaceOf_1 rfl ?_
  refine x_callV (rest := []) ho d_RT_firstPlaceOf_2 yv_RT_isReturn g_730 g_20 g_729 (c_RT_isReturn M.2.1 D o os N F z (by omega)) rfl rfl ⟨Nat.le_of_ble_eq_true rfl, Nat.le_of_ble_eq_true rfl⟩ ⟨Nat.le_of_ble_eq_true rfl, Nat.le_of_ble_eq_true rfl⟩ rfl rfl (Nat.le_of_ble_eq_true rfl) hT.1 rfl rfl hT fr_none' (x_rd (fun v_1 hv_1 => ?_))
  obtain rfl := hv_1
  show X _ _ _ _ _ _ _ _ _ [zV (bI (0 ≤ z ∧ z < (F.length : Int)))] _
  refine x_if_eqB (tgt := 21) ho d_RT_firstPlaceOf_5 (by decide) (fun c_5 => ?_) (fun c_5 => ?_)
  ·
    exact absurd hz c_5
  ·
    refine x_aload_n ho 0 d_RT_firstPlaceOf_8 rfl ?_
    refine x_aload_n ho 0 d_RT_firstPlaceOf_9 rfl ?_
    refine x_get 3 ho d_RT_firstPlaceOf_10 cl_RT (by decide) g_226 hT.1 rfl ?_
    refine x_iload_n ho 1 d_RT_firstPlaceOf_13 rfl ?_
    refine x_iald ho d_RT_firstPlaceOf_14 h_q (by omega) (by omega) (by omega) ?_
    refine x_eqI (b := gA F z) (by exact e3 _ (by omega) (by omega)) ?_
    have g1 := gA_m e7 (z := z) (by omega) (by omega)
    have g2 := gA_m hos (z := z) (by omega) (by omega)
    refine x_callV (rest := []) ho d_RT_firstPlaceOf_15 yv_RT_placeOf g_474 g_475 g_473 (c_RT_placeOf M.2.1 D o os N F (gA F z) (by omega)) rfl rfl ⟨Nat.le_of_ble_eq_true rfl, Nat.le_of_ble_eq_true rfl⟩ ⟨Nat.le_of_ble_eq_true rfl, Nat.le_of_ble_eq_true rfl⟩ rfl rfl (Nat.le_of_ble_eq_true rfl) hT.1 rfl rfl hT fr_none' (x_rd (fun v_3 hv_3 => ?_))
    obtain ⟨rfl, hb_5⟩ := hv_3
    show X _ _ _ _ _ _ _ _ _ [zV (plc os (gA F z))] _
    refine x_goto (tgt := 22) ho d_RT_firstPlaceOf_18 (by decide) ?_
    refine x_iret ho hr d_RT_firstPlaceOf_22 ?_
    exact rI (by exact if_pos (by omega))
def q_RT_timesOf (D : GG) (o : Nat) (os : List Int) (N : List Int) (F : List Int) (z : Int) : Option Value → Heap → Prop := fun v0 H => v0 = some (zV (cn N z))
theorem yv_RT_timesOf : Yv y_RT_timesOf b_RT_timesOf 2 (Option.some FieldType.int) 1 := ⟨g_739, g_64, by decide, by decide +kernel⟩
set_option maxHeartbeats 4000000 in
set_option maxRecDepth 100000 in
theorem c_RT_timesOf (l0 : Launch) (D : GG) (o : Nat) (os : List Int) (N : List Int) (F : List Int) (z : Int) (hz : 0 ≤ z ∧ z < (F.length : Int)) : Ct l0 D y_RT_timesOf b_RT_timesOf 2 (Option.some FieldType.int) ({ frames := 1, cells := 0, slots := 0, locals := 21 } : Room) [.ref o, zV z] (fun H => isRT D H o os N F) nA 0 0 (q_RT_timesOf D o os N F z) := by
  refine Ct.of (L := [(0, .ref o), (1, zV z)]) (by decide) (Nat.le_of_ble_eq_true rfl) rfl (fun M H ho hr hnm hH hpre => ?_)
  have hT := hpre
  obtain ⟨h_o, P, S, Q, T, h_p, h_s, h_q, h_t, e1, e2, e3, e4, e5, e6, e7, e8, e9, e10⟩ := id hT
  refine x_aload_n ho 0 d_RT_timesOf_0 rfl ?_
  refine x_iload_n ho 1 d_RT_timesOf_1 rfl ?_
  refine x_callV (rest := []) ho d_RT_timesOf_2 yv_RT_isReturn g_730 g_20 g_729 (c_RT_isReturn M.2.1 D o os N F z (by omega)) rfl rfl ⟨Nat.le_of_ble_eq_true rfl, Nat.le_of_ble_eq_true rfl⟩ ⟨Nat.le_of_ble_eq_true rfl, Nat.le_of_ble_eq_true rfl⟩ rfl rfl (Nat.le_of_ble_eq_true rfl) hT.1 rfl rfl hT fr_none' (x_rd (fun v_1 hv_1 => ?_))
  obtain rfl := hv_1
  show X _ _ _ _ _ _ _ _ _ [zV (bI (0 ≤ z ∧ z < (F.length : Int)))] _
  refine x_if_eqB (tgt := 17) ho d_RT_timesOf_5 (by decide) (fun c_5 => ?_) (fun c_5 => ?_)
  ·
    exact absurd hz c_5
  ·
    refine x_aload_n ho 0 d_RT_timesOf_8 rfl ?_
    refine x_get 4 ho d_RT_timesOf_9 cl_RT (by decide) g_227 hT.1 rfl ?_
    refine x_iload_n ho 1 d_RT_timesOf_12 rfl ?_
    refine x_iald ho d_RT_timesOf_13 h_t (by omega) (by omega) (by omega) ?_
    refine x_eqI (b := cn N z) (by exact e4 _ (by omega) (by omega)) ?_
    refine x_goto (tgt := 18) ho d_RT_timesOf_14 (by decide) ?_
    refine x_iret ho hr d_RT_timesOf_18 ?_
    exact rfl
def q_RT_isSameReturn (D : GG) (o : Nat) (os : List Int) (N : List Int) (F : List Int) (b : Nat) (n : Nat) (L : List Int) (x : Int) (y : Int) : Option Value → Heap → Prop := fun v0 H => v0 = some (zV (bI (sameR L os x y)))
theorem yv_RT_isSameReturn : Yv y_RT_isSameReturn b_RT_isSameReturn 5 (Option.some FieldType.boolean) 3 := ⟨g_469, g_64, by decide, by decide +kernel⟩
set_option maxHeartbeats 4000000 in
set_option maxRecDepth 100000 in
theorem c_RT_isSameReturn (l0 : Launch) (D : GG) (o : Nat) (os : List Int) (N : List Int) (F : List Int) (b : Nat) (n : Nat) (L : List Int) (x : Int) (y : Int) (hx : 0 ≤ x ∧ x + 1 < (os.length : Int)) (hy : 0 ≤ y ∧ y + 1 < (os.length : Int)) (hos : ∀ x ∈ os, 0 ≤ x ∧ x < (L.length : Int)) : Ct l0 D y_RT_isSameReturn b_RT_isSameReturn 5 (Option.some FieldType.boolean) ({ frames := 2, cells := 0, slots := 0, locals := 45 } : Room) [.ref o, .ref b, zV x, zV y] (fun H => isRT D H o os N F ∧ isL D H b n L) nA 0 0 (q_RT_isSameReturn D o os N F b n L x y) := by
  refine Ct.of (L := [(0, .ref o), (1, .ref b), (2, zV x), (3, zV y)]) (by decide) (Nat.le_of_ble_eq_true rfl) rfl (fun M H ho hr hnm hH hpre => ?_)
  obtain ⟨hT, hL⟩ := hpre
  have hob := hT.os.2
  refine x_aload_n ho 0 d_RT_isSameReturn_0 rfl ?_
  refine x_iload_n ho 2 d_RT_isSameReturn_1 rfl ?_
  refine x_callV (rest := []) ho d_RT_isSameReturn_2 yv_RT_spanOf g_471 g_8 g_470 (c_RT_spanOf M.2.1 D o os N F x (by omega)) rfl rfl ⟨Nat.le_of_ble_eq_true rfl, Nat.le_of_ble_eq_true rfl⟩ ⟨Nat.le_of_ble_eq_true rfl, Nat.le_of_ble_eq_true rfl⟩ rfl rfl (Nat.le_of_ble_eq_true rfl) hT.1 rfl rfl hT fr_none' (x_rd (fun v_1 hv_1 => ?_))
  obtain ⟨rfl, hb_3⟩ := hv_1
  show X _ _ _ _ _ _ _ _ _ [zV (gap os x)] _
  refine x_istore (L' := [(4, zV (gap os x)), (0, .ref o), (1, .ref b), (2, zV x), (3, zV y)]) ho d_RT_isSameReturn_5 (by decide) rfl ?_
  refine x_iload ho 0 d_RT_isSameReturn_7 rfl ?_
  refine x_aload_n ho 1 d_RT_isSameReturn_9 rfl ?_
  refine x_iload_n ho 4 d_RT_isSameReturn_10 rfl ?_
  refine x_callV (rest := [zV (gap os x)]) ho d_RT_isSameReturn_11 yv_RT_spanOf g_471 g_8 g_470 (c_RT_spanOf M.2.1 D o os N F y (by omega)) rfl rfl ⟨Nat.le_of_ble_eq_true rfl, Nat.le_of_ble_eq_true rfl⟩ ⟨Nat.le_of_ble_eq_true rfl, Nat.le_of_ble_eq_true rfl⟩ rfl rfl (Nat.le_of_ble_eq_true rfl) hT.1 rfl rfl hT fr_none' (x_rd (fun v_4 hv_4 => ?_))
  obtain ⟨rfl, hb_6⟩ := hv_4
  show X _ _ _ _ _ _ _ _ _ [zV (gap os y), zV (gap os x)] _
  refine x_icmp_ne (tgt := 40) ho d_RT_isSameReturn_14 (by decide) (by omega) (by omega) (fun c_14 => ?_) (fun c_14 => ?_)
  ·
    refine x_iconst ho d_RT_isSameReturn_40 ?_
    refine x_zret ho hr (Or.inl rfl) d_RT_isSameReturn_41 ?_
    exact rF (fun q => c_14 q.1)
  ·
    refine x_aload_n ho 2 d_RT_isSameReturn_17 rfl ?_
    refine x_aload_n ho 1 d_RT_isSameReturn_18 rfl ?_
    refine x_iload_n ho 3 d_RT_isSameReturn_19 rfl ?_
    refine x_callV (rest := [.ref b]) ho d_RT_isSameReturn_20 yv_RT_placeOf g_474 g_475 g_473 (c_RT_placeOf M.2.1 D o os N F x (by omega)) rfl rfl ⟨Nat.le_of_ble_eq_true rfl, Nat.le_of_ble_eq_true rfl⟩ ⟨Nat.le_of_ble_eq_true rfl, Nat.le_of_ble_eq_true rfl⟩ rfl rfl (Nat.le_of_ble_eq_true rfl) hT.1 rfl rfl hT fr_none' (x_rd (fun v_7 hv_7 => ?_))
    obtain ⟨rfl, hb_9⟩ := hv_7
    show X _ _ _ _ _ _ _ _ _ [zV (plc os x), .ref b] _
    refine x_eqI (b := gA os x) (by exact if_pos (by omega)) ?_
    refine x_aload_n ho 1 d_RT_isSameReturn_23 rfl ?_
    refine x_iload_n ho 4 d_RT_isSameReturn_24 rfl ?_
    refine x_callV (rest := [zV (gA os x), .ref b]) ho d_RT_isSameReturn_25 yv_RT_placeOf g_474 g_475 g_473 (c_RT_placeOf M.2.1 D o os N F y (by omega)) rfl rfl ⟨Nat.le_of_ble_eq_true rfl, Nat.le_of_ble_eq_true rfl⟩ ⟨Nat.le_of_ble_eq_true rfl, Nat.le_of_ble_eq_true rfl⟩ rfl rfl (Nat.le_of_ble_eq_true rfl) hT.1 rfl rfl hT fr_none' (x_rd (fun v_10 hv_10 => ?_))
    obtain ⟨rfl, hb_12⟩ := hv_10
    show X _ _ _ _ _ _ _ _ _ [zV (plc os y), zV (gA os x), .ref b] _
    refine x_eqI (b := gA os y) (by exact if_pos (by omega)) ?_
    refine x_iload ho 0 d_RT_isSameReturn_28 rfl ?_
    have p1 := gA_m hos (z := x) (by omega) (by omega)
    have p2 := gA_m hos (z := y) (by omega) (by omega)
    have p3 := gA_m hT.os.1 (z := x) (by omega) (by omega)
    have p4 := gA_m hT.os.1 (z := y) (by omega) (by omega)
    refine x_callV (rest := []) ho d_RT_isSameReturn_30 yv_LE_repeats g_478 g_479 g_477 (c_LE_repeats M.2.1 D b n L (gA os x) (gA os y) (gap os x) (by omega) (by omega) (by omega)) rfl rfl ⟨Nat.le_of_ble_eq_true rfl, Nat.le_of_ble_eq_true rfl⟩ ⟨Nat.le_of_ble_eq_true rfl, Nat.le_of_ble_eq_true rfl⟩ rfl rfl (Nat.le_of_ble_eq_true rfl) hL.1 rfl rfl hL fr_none' (x_rd (fun v_13 hv_13 => ?_))
    obtain rfl := hv_13
    show X _ _ _ _ _ _ _ _ _ [zV (bI (∀ j : Int, 0 ≤ j → j < (gap os x) → lat L ((gA os x) + j) = lat L ((gA os y) + j)))] _
    refine x_if_eqB (tgt := 40) ho d_RT_isSameReturn_33 (by decide) (fun c_33 => ?_) (fun c_33 => ?_)
    ·
      refine x_iconst ho d_RT_isSameReturn_40 ?_
      refine x_zret ho hr (Or.inl rfl) d_RT_isSameReturn_41 ?_
      exact rF (fun q => c_33 ((sameR_lat hos hx hy c_14).mpr q.2))
    ·
      refine x_iconst ho d_RT_isSameReturn_36 ?_
      refine x_goto (tgt := 41) ho d_RT_isSameReturn_37 (by decide) ?_
      refine x_zret ho hr (Or.inr rfl) d_RT_isSameReturn_41 ?_
      exact rT ⟨c_14, (sameR_lat hos hx hy c_14).mp c_33⟩
def q_RT_addReturn (D : GG) (o : Nat) (os : List Int) (N : List Int) (F : List Int) (b : Nat) (n : Nat) (L : List Int) (n1 : Int) : Option Value → Heap → Prop := fun v0 H => v0 = none ∧ isRT D H o os (N ++ [fidx L os n1 F]) (if fidx L os n1 F < (F.length : Int) then F else F ++ [n1]) ∧ isL D H b n L
theorem yv_RT_addReturn : Yv y_RT_addReturn b_RT_addReturn 4 (Option.none : Option FieldType) 2 := ⟨g_466, g_64, by decide, by decide +kernel⟩
set_option maxHeartbeats 4000000 in
set_option maxRecDepth 100000 in
theorem c_RT_addReturn (l0 : Launch) (D : GG) (o : Nat) (os : List Int) (N : List Int) (F : List Int) (b : Nat) (n : Nat) (L : List Int) (n1 : Int) (hd : o + 5 ≤ b ∨ b + 2 ≤ o) (hn1 : 0 ≤ n1 ∧ n1 = (N.length : Int) ∧ n1 + 1 < (os.length : Int)) (hos : ∀ x ∈ os, 0 ≤ x ∧ x < (L.length : Int)) : Ct l0 D y_RT_addReturn b_RT_addReturn 4 (Option.none : Option FieldType) ({ frames := 3, cells := 0, slots := 0, locals := 69 } : Room) [.ref o, .ref b, zV n1] (fun H => isRT D H o os N F ∧ isL D H b n L) (rA o (o + 5)) 0 0 (q_RT_addReturn D o os N F b n L n1) := by
  refine Ct.of (L := [(0, .ref o), (1, .ref b), (2, zV n1)]) (by decide) (Nat.le_of_ble_eq_true rfl) rfl (fun M H ho hr hnm hH hpre => ?_)
  obtain ⟨hT, hL⟩ := hpre
  obtain ⟨h_o, P, S, Q, T, h_p, h_s, h_q, h_t, e1, e2, e3, e4, e5, e6, e7, e8, e9, e10⟩ := id hT
  refine x_iconst ho d_RT_addReturn_0 ?_
  refine x_istore_n (L' := [(3, zV 0), (0, .ref o), (1, .ref b), (2, zV n1)]) ho d_RT_addReturn_1 (by decide) rfl ?_
  have loop_2 : ∀ (kk : Nat) (i : Int) (i0 : 0 ≤ i ∧ i ≤ (F.length : Int)) (hj : ∀ j : Int, 0 ≤ j → j < i → ¬ sameR L os (gA F j) n1), ((F.length : Int) - i).toNat < kk → X M ({ frames := 3, cells := 0, slots := 0, locals := 69 } : Room) 4 (rA o (o + 5)) 0 0 (Qof M (rA o (o + 5)) (q_RT_addReturn D o os N F b n L n1) 0 0) 2 [(3, zV i), (0, .ref o), (1, .ref b), (2, zV n1)] [] H := by
    intro kk
    induction kk with
    | zero => intro i i0 hj hk; exact absurd hk (Nat.not_lt_zero _)
    | succ kk ih_2 =>
      intro i i0 hj hk_2
      refine x_iload_n ho 0 d_RT_addReturn_2 rfl ?_
      refine x_aload_n ho 1 d_RT_addReturn_3 rfl ?_
      refine x_get 5 ho d_RT_addReturn_4 cl_RT (by decide) g_228 hT.1 rfl ?_
      refine x_icmp_ge (tgt := 31) ho d_RT_addReturn_7 (by decide) (by omega) (by omega) (fun c_7 => ?_) (fun c_7 => ?_)
      ·
        have hfi := fidx_c i0.1 i0.2 hj (Or.inl (by omega))
        refine x_iload_n ho 0 d_RT_addReturn_31 rfl ?_
        refine x_aload_n ho 1 d_RT_addReturn_32 rfl ?_
        refine x_get 3 ho d_RT_addReturn_33 cl_RT (by decide) g_226 hT.1 rfl ?_
        refine x_alen ho d_RT_addReturn_36 h_q ?_
        refine x_icmp_ge (tgt := 53) ho d_RT_addReturn_37 (by decide) (by omega) (by omega) (fun c_37 => ?_) (fun c_37 => ?_)
        ·
          omega
        ·
          refine x_iload_n ho 3 d_RT_addReturn_40 rfl ?_
          refine x_if_lt (tgt := 53) ho d_RT_addReturn_41 (by decide) (by omega) (fun c_41 => ?_) (fun c_41 => ?_)
          ·
            omega
          ·
            refine x_iload_n ho 3 d_RT_addReturn_44 rfl ?_
            refine x_aload_n ho 1 d_RT_addReturn_45 rfl ?_
            refine x_get 2 ho d_RT_addReturn_46 cl_RT (by decide) g_225 hT.1 rfl ?_
            refine x_alen ho d_RT_addReturn_49 h_s ?_
            refine x_icmp_lt (tgt := 54) ho d_RT_addReturn_50 (by decide) (by omega) (by omega) (fun c_50 => ?_) (fun c_50 => ?_)
            ·
              refine x_iload_n ho 0 d_RT_addReturn_54 rfl ?_
              refine x_aload_n ho 1 d_RT_addReturn_55 rfl ?_
              refine x_get 5 ho d_RT_addReturn_56 cl_RT (by decide) g_228 h_o rfl ?_
              refine x_icmp_ne (tgt := 86) ho d_RT_addReturn_59 (by decide) (by omega) (by omega) (fun c_59 => ?_) (fun c_59 => ?_)
              ·
                omega
              ·
                refine x_aload_n ho 1 d_RT_addReturn_62 rfl ?_
                refine x_get 3 ho d_RT_addReturn_63 cl_RT (by decide) g_226 h_o rfl ?_
                refine x_iload_n ho 0 d_RT_addReturn_66 rfl ?_
                refine x_iload_n ho 3 d_RT_addReturn_67 rfl ?_
                refine x_iast ho d_RT_addReturn_68 h_q (by omega) (by omega) (by omega) (rA_in (by omega) (by omega)) (fun H_1 p_2 z_3 q_4 => ?_)
                have k_5 := hL.kept (fun q g1 g2 => q_4 q (by omega))
                have k_6 := h_o.kept (q_4 _ (by omega))
                have k_7 := h_p.kept (q_4 _ (by omega))
                have k_8 := h_s.kept (q_4 _ (by omega))
                have k_9 := h_t.kept (q_4 _ (by omega))
                refine x_aload_n ho 1 d_RT_addReturn_69 rfl ?_
                refine x_get 4 ho d_RT_addReturn_70 cl_RT (by decide) g_227 k_6 rfl ?_
                refine x_iload_n ho 0 d_RT_addReturn_73 rfl ?_
                refine x_iconst ho d_RT_addReturn_74 ?_
                refine x_iast ho d_RT_addReturn_75 k_9 (by omega) (by omega) (by omega) (rA_in (by omega) (by omega)) (fun H_10 p_11 z_12 q_13 => ?_)
                have k_14 := k_5.kept (fun q g1 g2 => q_13 q (by omega))
                have k_15 := k_6.kept (q_13 _ (by omega))
                have k_16 := k_7.kept (q_13 _ (by omega))
                have k_17 := k_8.kept (q_13 _ (by omega))
                have k_18 := p_2.kept (q_13 _ (by omega))
                refine x_aload_n ho 1 d_RT_addReturn_76 rfl ?_
                refine x_dup ho d_RT_addReturn_77 rfl ?_
                refine x_get 5 ho d_RT_addReturn_78 cl_RT (by decide) g_228 k_15 rfl ?_
                refine x_iconst ho d_RT_addReturn_81 ?_
                refine x_iadd ho d_RT_addReturn_82 ?_
                refine x_put 5 ho d_RT_addReturn_83 cl_RT (by decide) g_228 k_15 rfl rfl rfl (Nat.le_of_ble_eq_true rfl) (rA_in (by omega) (by omega)) (fun H_19 p_20 z_21 q_22 => ?_)
                have k_23 := k_14.kept (fun q g1 g2 => q_22 q (by omega))
                have k_24 := k_16.kept (q_22 _ (by omega))
                have k_25 := k_17.kept (q_22 _ (by omega))
                have k_26 := k_18.kept (q_22 _ (by omega))
                have k_27 := p_11.kept (q_22 _ (by omega))
                refine x_aload_n ho 1 d_RT_addReturn_86 rfl ?_
                refine x_get 4 ho d_RT_addReturn_87 cl_RT (by decide) g_227 p_20 rfl ?_
                refine x_iload_n ho 0 d_RT_addReturn_90 rfl ?_
                refine x_dup2 ho d_RT_addReturn_91 rfl rfl ?_
                refine x_iald ho d_RT_addReturn_92 k_27 (by omega) (by omega) (by omega) ?_
                refine x_eqI (b := 0) (by exact zU_s _ _ _) ?_
                refine x_iconst ho d_RT_addReturn_93 ?_
                refine x_iadd ho d_RT_addReturn_94 ?_
                refine x_iast ho d_RT_addReturn_95 k_27 (by omega) (by omega) (by omega) (rA_in (by omega) (by omega)) (fun H_28 p_29 z_30 q_31 => ?_)
                have k_32 := k_23.kept (fun q g1 g2 => q_31 q (by omega))
                have k_33 := k_24.kept (q_31 _ (by omega))
                have k_34 := k_25.kept (q_31 _ (by omega))
                have k_35 := k_26.kept (q_31 _ (by omega))
                have k_36 := p_20.kept (q_31 _ (by omega))
                refine x_aload_n ho 1 d_RT_addReturn_96 rfl ?_
                refine x_get 2 ho d_RT_addReturn_97 cl_RT (by decide) g_225 k_36 rfl ?_
                refine x_iload_n ho 3 d_RT_addReturn_100 rfl ?_
                refine x_iload_n ho 0 d_RT_addReturn_101 rfl ?_
                refine x_iast ho d_RT_addReturn_102 k_34 (by omega) (by omega) (by omega) (rA_in (by omega) (by omega)) (fun H_37 p_38 z_39 q_40 => ?_)
                have k_41 := k_32.kept (fun q g1 g2 => q_40 q (by omega))
                have k_42 := k_33.kept (q_40 _ (by omega))
                have k_43 := k_35.kept (q_40 _ (by omega))
                have k_44 := k_36.kept (q_40 _ (by omega))
                have k_45 := p_29.kept (q_40 _ (by omega))
                refine x_vret ho hr d_RT_addReturn_103 ?_
                exact ⟨rfl, by rw [hfi, if_neg (by omega)]; exact isRT_new k_44 k_42 p_38 k_43 k_45 e1 e2 e3 e4 e5 e6 e7 e8 (by omega) e10 hn1.2.1 (by omega), k_41⟩
            ·
              omega
      ·
        refine x_aload_n ho 1 d_RT_addReturn_10 rfl ?_
        refine x_aload_n ho 2 d_RT_addReturn_11 rfl ?_
        refine x_aload_n ho 1 d_RT_addReturn_12 rfl ?_
        refine x_get 3 ho d_RT_addReturn_13 cl_RT (by decide) g_226 hT.1 rfl ?_
        refine x_iload_n ho 0 d_RT_addReturn_16 rfl ?_
        refine x_iald ho d_RT_addReturn_17 h_q (by omega) (by omega) (by omega) ?_
        refine x_eqI (b := gA F i) (by exact e3 _ (by omega) (by omega)) ?_
        refine x_iload_n ho 3 d_RT_addReturn_18 rfl ?_
        have g1 := gA_m e7 (z := i) (by omega) (by omega)
        refine x_callV (rest := []) ho d_RT_addReturn_19 yv_RT_isSameReturn g_468 g_7 g_467 (c_RT_isSameReturn M.2.1 D o os N F b n L (gA F i) n1 (by omega) (by omega) (by omega)) rfl rfl ⟨Nat.le_of_ble_eq_true rfl, Nat.le_of_ble_eq_true rfl⟩ ⟨Nat.le_of_ble_eq_true rfl, Nat.le_of_ble_eq_true rfl⟩ rfl rfl (Nat.le_of_ble_eq_true rfl) hT.1 rfl rfl ⟨hT, hL⟩ fr_none' (x_rd (fun v_46 hv_46 => ?_))
        obtain rfl := hv_46
        show X _ _ _ _ _ _ _ _ _ [zV (bI (sameR L os (gA F i) n1))] _
        refine x_if_neB (tgt := 31) ho d_RT_addReturn_22 (by decide) (fun c_22 => ?_) (fun c_22 => ?_)
        ·
          have hfi := fidx_c i0.1 i0.2 hj (Or.inr c_22)
          refine x_iload_n ho 0 d_RT_addReturn_31 rfl ?_
          refine x_aload_n ho 1 d_RT_addReturn_32 rfl ?_
          refine x_get 3 ho d_RT_addReturn_33 cl_RT (by decide) g_226 hT.1 rfl ?_
          refine x_alen ho d_RT_addReturn_36 h_q ?_
          refine x_icmp_ge (tgt := 53) ho d_RT_addReturn_37 (by decide) (by omega) (by omega) (fun c_37 => ?_) (fun c_37 => ?_)
          ·
            omega
          ·
            refine x_iload_n ho 3 d_RT_addReturn_40 rfl ?_
            refine x_if_lt (tgt := 53) ho d_RT_addReturn_41 (by decide) (by omega) (fun c_41 => ?_) (fun c_41 => ?_)
            ·
              omega
            ·
              refine x_iload_n ho 3 d_RT_addReturn_44 rfl ?_
              refine x_aload_n ho 1 d_RT_addReturn_45 rfl ?_
              refine x_get 2 ho d_RT_addReturn_46 cl_RT (by decide) g_225 hT.1 rfl ?_
              refine x_alen ho d_RT_addReturn_49 h_s ?_
              refine x_icmp_lt (tgt := 54) ho d_RT_addReturn_50 (by decide) (by omega) (by omega) (fun c_50 => ?_) (fun c_50 => ?_)
              ·
                refine x_iload_n ho 0 d_RT_addReturn_54 rfl ?_
                refine x_aload_n ho 1 d_RT_addReturn_55 rfl ?_
                refine x_get 5 ho d_RT_addReturn_56 cl_RT (by decide) g_228 h_o rfl ?_
                refine x_icmp_ne (tgt := 86) ho d_RT_addReturn_59 (by decide) (by omega) (by omega) (fun c_59 => ?_) (fun c_59 => ?_)
                ·
                  refine x_aload_n ho 1 d_RT_addReturn_86 rfl ?_
                  refine x_get 4 ho d_RT_addReturn_87 cl_RT (by decide) g_227 h_o rfl ?_
                  refine x_iload_n ho 0 d_RT_addReturn_90 rfl ?_
                  refine x_dup2 ho d_RT_addReturn_91 rfl rfl ?_
                  refine x_iald ho d_RT_addReturn_92 h_t (by omega) (by omega) (by omega) ?_
                  refine x_eqI (b := cn N i) (by exact e4 _ (by omega) (by omega)) ?_
                  refine x_iconst ho d_RT_addReturn_93 ?_
                  refine x_iadd ho d_RT_addReturn_94 ?_
                  refine x_iast ho d_RT_addReturn_95 h_t (by omega) (by omega) (by omega) (rA_in (by omega) (by omega)) (fun H_48 p_49 z_50 q_51 => ?_)
                  have k_52 := hL.kept (fun q g1 g2 => q_51 q (by omega))
                  have k_53 := h_o.kept (q_51 _ (by omega))
                  have k_54 := h_p.kept (q_51 _ (by omega))
                  have k_55 := h_s.kept (q_51 _ (by omega))
                  have k_56 := h_q.kept (q_51 _ (by omega))
                  refine x_aload_n ho 1 d_RT_addReturn_96 rfl ?_
                  refine x_get 2 ho d_RT_addReturn_97 cl_RT (by decide) g_225 k_53 rfl ?_
                  refine x_iload_n ho 3 d_RT_addReturn_100 rfl ?_
                  refine x_iload_n ho 0 d_RT_addReturn_101 rfl ?_
                  refine x_iast ho d_RT_addReturn_102 k_55 (by omega) (by omega) (by omega) (rA_in (by omega) (by omega)) (fun H_57 p_58 z_59 q_60 => ?_)
                  have k_61 := k_52.kept (fun q g1 g2 => q_60 q (by omega))
                  have k_62 := k_53.kept (q_60 _ (by omega))
                  have k_63 := k_54.kept (q_60 _ (by omega))
                  have k_64 := k_56.kept (q_60 _ (by omega))
                  have k_65 := p_49.kept (q_60 _ (by omega))
                  refine x_vret ho hr d_RT_addReturn_103 ?_
                  exact ⟨rfl, by rw [hfi, if_pos (by omega)]; exact isRT_old k_62 k_63 p_58 k_64 k_65 e1 e2 e3 e4 e5 e6 e7 e8 (by omega) e10 hn1.2.1 (by omega), k_61⟩
                ·
                  omega
              ·
                omega
        ·
          refine x_iinc (L' := [(3, zV (i + 1)), (0, .ref o), (1, .ref b), (2, zV n1)]) ho 0 d_RT_addReturn_25 rfl rfl (by decide) rfl ?_
          refine x_goto (tgt := 2) ho d_RT_addReturn_28 (by decide) ?_
          exact ih_2 (i + 1) (by omega) (by intro j h0 h1; rcases (show j < i ∨ j = i by omega) with h | h; exact hj j h0 h; subst h; exact c_22) (by omega)
  exact loop_2 _ 0 (by omega) (by intro j h0 h1; omega) (Nat.lt_succ_self _)
