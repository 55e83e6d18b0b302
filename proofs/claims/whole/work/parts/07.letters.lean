def q_MW_isLetter (D : GG) (x : Int) : Option Value → Heap → Prop := fun v H => (v = some (zV (bI (0 ≤ x ∧ x < 4))))
theorem yv_MW_isLetter : Yv y_MW_isLetter b_MW_isLetter 1 (Option.some FieldType.boolean) 1 := ⟨g_108, g_51, by decide, by decide +kernel⟩
set_option maxHeartbeats 4000000 in
set_option maxRecDepth 100000 in
theorem c_MW_isLetter (l : Launch) (D : GG) (x : Int) (hx : -2147483648 ≤ x ∧ x ≤ 2147483647) : Ct l D y_MW_isLetter b_MW_isLetter 1 (Option.some FieldType.boolean) ({ frames := 0, cells := 0, slots := 0, locals := 0 } : Room) [zV x] (fun H => True) nA 0 0 (q_MW_isLetter D x) := by
  refine Ct.of (L := [(0, zV x)]) (by decide) (Nat.le_of_ble_eq_true rfl) rfl (fun M H ho hr hnm hH hpre => ?_)
  refine x_iload_n ho 0 d_MW_isLetter_0 rfl ?_
  refine x_if_lt (tgt := 13) ho d_MW_isLetter_1 (by decide) (by omega) (fun c_1 => ?_) (fun c_1 => ?_)
  ·
    refine x_iconst ho d_MW_isLetter_13 ?_
    refine x_zret ho hr (Or.inl rfl) d_MW_isLetter_14 ?_
    exact rF (by omega)
  ·
    refine x_iload_n ho 0 d_MW_isLetter_4 rfl ?_
    refine x_iconst ho d_MW_isLetter_5 ?_
    refine x_icmp_ge (tgt := 13) ho d_MW_isLetter_6 (by decide) (by omega) (by omega) (fun c_6 => ?_) (fun c_6 => ?_)
    ·
      refine x_iconst ho d_MW_isLetter_13 ?_
      refine x_zret ho hr (Or.inl rfl) d_MW_isLetter_14 ?_
      exact rF (by omega)
    ·
      refine x_iconst ho d_MW_isLetter_9 ?_
      refine x_goto (tgt := 14) ho d_MW_isLetter_10 (by decide) ?_
      refine x_zret ho hr (Or.inr rfl) d_MW_isLetter_14 ?_
      exact rT (by omega)
def q_LE_length (D : GG) (o : Nat) (n : Nat) (L : List Int) : Option Value → Heap → Prop := fun v H => v = some (zV ((L.length : Int)))
theorem yv_LE_length : Yv y_LE_length b_LE_length 1 (Option.some FieldType.int) 0 := ⟨g_323, g_54, by decide, by decide +kernel⟩
set_option maxHeartbeats 4000000 in
set_option maxRecDepth 100000 in
theorem c_LE_length (l : Launch) (D : GG) (o : Nat) (n : Nat) (L : List Int)  : Ct l D y_LE_length b_LE_length 1 (Option.some FieldType.int) ({ frames := 0, cells := 0, slots := 0, locals := 0 } : Room) [.ref o] (fun H => isL D H o n L) nA 0 0 (q_LE_length D o n L) := by
  refine Ct.of (L := [(0, .ref o)]) (by decide) (Nat.le_of_ble_eq_true rfl) rfl (fun M H ho hr hnm hH hpre => ?_)
  have hL := hpre
  refine x_aload_n ho 0 d_LE_length_0 rfl ?_
  refine x_get 1 ho d_LE_length_1 cl_LE (by decide) g_96 hL.1 rfl ?_
  refine x_iret ho hr d_LE_length_4 ?_
  exact rfl
def q_LE_letterAt (D : GG) (o : Nat) (n : Nat) (L : List Int) (z : Int) : Option Value → Heap → Prop := fun v H => v = some (zV (lat L z)) ∧ (-1 ≤ lat L z ∧ lat L z < 4)
theorem yv_LE_letterAt : Yv y_LE_letterAt b_LE_letterAt 2 (Option.some FieldType.int) 1 := ⟨g_343, g_54, by decide, by decide +kernel⟩
set_option maxHeartbeats 4000000 in
set_option maxRecDepth 100000 in
theorem c_LE_letterAt (l : Launch) (D : GG) (o : Nat) (n : Nat) (L : List Int) (z : Int) (hz : -2147483648 ≤ z ∧ z ≤ 2147483647) : Ct l D y_LE_letterAt b_LE_letterAt 2 (Option.some FieldType.int) ({ frames := 0, cells := 0, slots := 0, locals := 0 } : Room) [.ref o, zV z] (fun H => isL D H o n L) nA 0 0 (q_LE_letterAt D o n L z) := by
  refine Ct.of (L := [(0, .ref o), (1, zV z)]) (by decide) (Nat.le_of_ble_eq_true rfl) rfl (fun M H ho hr hnm hH hpre => ?_)
  have hL := hpre
  obtain ⟨h_o, ⟨f, h_a, h_f⟩, h_n, h_3, h_w⟩ := id hL
  refine x_iload_n ho 1 d_LE_letterAt_0 rfl ?_
  refine x_if_lt (tgt := 21) ho d_LE_letterAt_1 (by decide) (by omega) (fun c_1 => ?_) (fun c_1 => ?_)
  ·
    refine x_iconst ho d_LE_letterAt_21 ?_
    refine x_iret ho hr d_LE_letterAt_22 ?_
    exact ⟨rI (by exact (lat_out (by omega)).symm), (by exact lat_r h_w z)⟩
  ·
    refine x_iload_n ho 1 d_LE_letterAt_4 rfl ?_
    refine x_aload_n ho 0 d_LE_letterAt_5 rfl ?_
    refine x_get 1 ho d_LE_letterAt_6 cl_LE (by decide) g_96 h_o rfl ?_
    refine x_icmp_ge (tgt := 21) ho d_LE_letterAt_9 (by decide) (by omega) (by omega) (fun c_9 => ?_) (fun c_9 => ?_)
    ·
      refine x_iconst ho d_LE_letterAt_21 ?_
      refine x_iret ho hr d_LE_letterAt_22 ?_
      exact ⟨rI (by exact (lat_out (by omega)).symm), (by exact lat_r h_w z)⟩
    ·
      refine x_aload_n ho 0 d_LE_letterAt_12 rfl ?_
      refine x_get 0 ho d_LE_letterAt_13 cl_LE (by decide) g_95 h_o rfl ?_
      refine x_iload_n ho 1 d_LE_letterAt_16 rfl ?_
      refine x_iald ho d_LE_letterAt_17 h_a (by omega) (by omega) (by omega) ?_
      refine x_eqI (b := gA L z) (by exact h_f _ (by omega) (by omega)) ?_
      refine x_goto (tgt := 22) ho d_LE_letterAt_18 (by decide) ?_
      refine x_iret ho hr d_LE_letterAt_22 ?_
      exact ⟨rI (by exact (lat_in (by omega) (by omega)).symm), (by exact lat_r h_w z)⟩
def q_LE_clear (D : GG) (o : Nat) (n : Nat) (L : List Int) : Option Value → Heap → Prop := fun v H => v = none ∧ isL D H o n ([])
theorem yv_LE_clear : Yv y_LE_clear b_LE_clear 1 (Option.none : Option FieldType) 0 := ⟨g_316, g_54, by decide, by decide +kernel⟩
set_option maxHeartbeats 4000000 in
set_option maxRecDepth 100000 in
theorem c_LE_clear (l : Launch) (D : GG) (o : Nat) (n : Nat) (L : List Int)  : Ct l D y_LE_clear b_LE_clear 1 (Option.none : Option FieldType) ({ frames := 0, cells := 0, slots := 0, locals := 0 } : Room) [.ref o] (fun H => isL D H o n L) (rA o (o + 2)) 0 0 (q_LE_clear D o n L) := by
  refine Ct.of (L := [(0, .ref o)]) (by decide) (Nat.le_of_ble_eq_true rfl) rfl (fun M H ho hr hnm hH hpre => ?_)
  have hL := hpre
  obtain ⟨h_o, ⟨f, h_a, h_f⟩, h_n, h_3, h_w⟩ := id hL
  refine x_aload_n ho 0 d_LE_clear_0 rfl ?_
  refine x_iconst ho d_LE_clear_1 ?_
  refine x_put 1 ho d_LE_clear_2 cl_LE (by decide) g_96 h_o rfl rfl rfl (Nat.le_of_ble_eq_true rfl) (rA_in (by omega) (by omega)) (fun H_1 p_2 z_3 q_4 => ?_)
  have k_5 := h_a.kept (q_4 _ (by omega))
  refine x_vret ho hr d_LE_clear_5 ?_
  exact ⟨rfl, isL_mk p_2 k_5 rfl (fun j h0 h1 => by simp at h1; omega) (Nat.zero_le _) h_3 wf_nil⟩
def q_LE_add (D : GG) (o : Nat) (n : Nat) (L : List Int) (x : Int) : Option Value → Heap → Prop := fun v H => (v = some (zV 1) ∧ (0 ≤ x ∧ x < 4 ∧ (L.length : Int) < n) ∧ isL D H o n (L ++ [x])) ∨ (v = some (zV 0) ∧ (¬ (0 ≤ x ∧ x < 4 ∧ (L.length : Int) < n)) ∧ isL D H o n L)
theorem yv_LE_add : Yv y_LE_add b_LE_add 2 (Option.some FieldType.boolean) 1 := ⟨g_106, g_54, by decide, by decide +kernel⟩
set_option maxHeartbeats 4000000 in
set_option maxRecDepth 100000 in
theorem c_LE_add (l : Launch) (D : GG) (o : Nat) (n : Nat) (L : List Int) (x : Int) (hx : -2147483648 ≤ x ∧ x ≤ 2147483647) : Ct l D y_LE_add b_LE_add 2 (Option.some FieldType.boolean) ({ frames := 1, cells := 0, slots := 0, locals := 20 } : Room) [.ref o, zV x] (fun H => isL D H o n L) (rA o (o + 2)) 0 0 (q_LE_add D o n L x) := by
  refine Ct.of (L := [(0, .ref o), (1, zV x)]) (by decide) (Nat.le_of_ble_eq_true rfl) rfl (fun M H ho hr hnm hH hpre => ?_)
  have hL := hpre
  obtain ⟨h_o, ⟨f, h_a, h_f⟩, h_n, h_3, h_w⟩ := id hL
  refine x_iload_n ho 1 d_LE_add_0 rfl ?_
  refine x_callSN (host := "MorphWords") (rest := []) ho d_LE_add_1 yv_MW_isLetter g_107 (List.mem_of_getElem? (i := 0) rfl) (c_MW_isLetter M.2.1 D x (by omega)) rfl rfl ⟨Nat.le_of_ble_eq_true rfl, Nat.le_of_ble_eq_true rfl⟩ ⟨Nat.le_of_ble_eq_true rfl, Nat.le_of_ble_eq_true rfl⟩ rfl rfl (Nat.le_of_ble_eq_true rfl) trivial fr_none' (x_rd (fun v_1 hv_1 => ?_))
  obtain rfl := hv_1
  show X _ _ _ _ _ _ _ _ _ [zV (bI (0 ≤ x ∧ x < 4))] _
  refine x_if_eqB (tgt := 19) ho d_LE_add_4 (by decide) (fun c_4 => ?_) (fun c_4 => ?_)
  ·
    refine x_iconst ho d_LE_add_19 ?_
    refine x_zret ho hr (Or.inl rfl) d_LE_add_20 ?_
    exact Or.inr ⟨rfl, by omega, hL⟩
  ·
    refine x_aload_n ho 0 d_LE_add_7 rfl ?_
    refine x_get 1 ho d_LE_add_8 cl_LE (by decide) g_96 h_o rfl ?_
    refine x_aload_n ho 0 d_LE_add_11 rfl ?_
    refine x_get 0 ho d_LE_add_12 cl_LE (by decide) g_95 h_o rfl ?_
    refine x_alen ho d_LE_add_15 h_a ?_
    refine x_icmp_lt (tgt := 21) ho d_LE_add_16 (by decide) (by omega) (by omega) (fun c_16 => ?_) (fun c_16 => ?_)
    ·
      refine x_aload_n ho 0 d_LE_add_21 rfl ?_
      refine x_get 0 ho d_LE_add_22 cl_LE (by decide) g_95 h_o rfl ?_
      refine x_aload_n ho 0 d_LE_add_25 rfl ?_
      refine x_get 1 ho d_LE_add_26 cl_LE (by decide) g_96 h_o rfl ?_
      refine x_iload_n ho 1 d_LE_add_29 rfl ?_
      refine x_iast ho d_LE_add_30 h_a (by omega) (by omega) (by omega) (rA_in (by omega) (by omega)) (fun H_3 p_4 z_5 q_6 => ?_)
      have k_7 := h_o.kept (q_6 _ (by omega))
      refine x_aload_n ho 0 d_LE_add_31 rfl ?_
      refine x_dup ho d_LE_add_32 rfl ?_
      refine x_get 1 ho d_LE_add_33 cl_LE (by decide) g_96 k_7 rfl ?_
      refine x_iconst ho d_LE_add_36 ?_
      refine x_iadd ho d_LE_add_37 ?_
      refine x_put 1 ho d_LE_add_38 cl_LE (by decide) g_96 k_7 rfl rfl rfl (Nat.le_of_ble_eq_true rfl) (rA_in (by omega) (by omega)) (fun H_8 p_9 z_10 q_11 => ?_)
      have k_12 := p_4.kept (q_11 _ (by omega))
      refine x_iconst ho d_LE_add_41 ?_
      refine x_zret ho hr (Or.inr rfl) d_LE_add_42 ?_
      exact Or.inl ⟨rfl, by omega, isL_push p_9 k_12 h_f (by omega) h_3 h_w (by omega) (by omega)⟩
    ·
      refine x_iconst ho d_LE_add_19 ?_
      refine x_zret ho hr (Or.inl rfl) d_LE_add_20 ?_
      exact Or.inr ⟨rfl, by omega, hL⟩
