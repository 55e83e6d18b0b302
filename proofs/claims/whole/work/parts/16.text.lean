def q_TX_length (D : GG) (t : Nat) (L : List Int) : Option Value → Heap → Prop := fun v0 H => v0 = some (zV ((L.length : Int))) ∧ L.length ≤ 60
theorem yv_TX_length : Yv y_TX_length b_TX_length 1 (Option.some FieldType.int) 0 := ⟨g_511, g_57, by decide, by decide +kernel⟩
set_option maxHeartbeats 4000000 in
set_option maxRecDepth 100000 in
theorem c_TX_length (l0 : Launch) (D : GG) (t : Nat) (L : List Int)  : Ct l0 D y_TX_length b_TX_length 1 (Option.some FieldType.int) ({ frames := 0, cells := 0, slots := 0, locals := 0 } : Room) [.ref t] (fun H => isT D H t L) nA 0 0 (q_TX_length D t L) := by
  refine Ct.of (L := [(0, .ref t)]) (by decide) (Nat.le_of_ble_eq_true rfl) rfl (fun M H ho hr hnm hH hpre => ?_)
  have hT := hpre
  refine x_aload_n ho 0 d_TX_length_0 rfl ?_
  refine x_get 1 ho d_TX_length_1 cl_TX (by decide) g_153 hT.1 rfl ?_
  refine x_iret ho hr d_TX_length_4 ?_
  exact ⟨rfl, (by exact hT.b)⟩
def q_TX_clear (D : GG) (t : Nat) (L : List Int) : Option Value → Heap → Prop := fun v0 H => v0 = none ∧ isT D H t ([])
theorem yv_TX_clear : Yv y_TX_clear b_TX_clear 1 (Option.none : Option FieldType) 0 := ⟨g_519, g_57, by decide, by decide +kernel⟩
set_option maxHeartbeats 4000000 in
set_option maxRecDepth 100000 in
theorem c_TX_clear (l0 : Launch) (D : GG) (t : Nat) (L : List Int)  : Ct l0 D y_TX_clear b_TX_clear 1 (Option.none : Option FieldType) ({ frames := 0, cells := 0, slots := 0, locals := 0 } : Room) [.ref t] (fun H => isT D H t L) (rA t (t + 2)) 0 0 (q_TX_clear D t L) := by
  refine Ct.of (L := [(0, .ref t)]) (by decide) (Nat.le_of_ble_eq_true rfl) rfl (fun M H ho hr hnm hH hpre => ?_)
  have hT := hpre
  obtain ⟨h_o, ⟨f, h_a, h_f⟩, h_n, h_w⟩ := id hT
  refine x_aload_n ho 0 d_TX_clear_0 rfl ?_
  refine x_iconst ho d_TX_clear_1 ?_
  refine x_put 1 ho d_TX_clear_2 cl_TX (by decide) g_153 h_o rfl rfl rfl (Nat.le_of_ble_eq_true rfl) (rA_in (by omega) (by omega)) (fun H_1 p_2 z_3 q_4 => ?_)
  have k_5 := h_a.kept (q_4 _ (by omega))
  refine x_vret ho hr d_TX_clear_5 ?_
  exact ⟨rfl, isT_mk p_2 k_5 rfl (fun j h0 h1 => by simp at h1; omega) (Nat.zero_le _) (fun _ h => by cases h)⟩
def q_TX_add (D : GG) (t : Nat) (L : List Int) (x : Int) : Option Value → Heap → Prop := fun v0 H => (v0 = some (zV 1) ∧ (L.length : Int) < 60 ∧ isT D H t (L ++ [x])) ∨ (v0 = some (zV 0) ∧ ¬ (L.length : Int) < 60 ∧ isT D H t L)
theorem yv_TX_add : Yv y_TX_add b_TX_add 2 (Option.some FieldType.boolean) 1 := ⟨g_507, g_57, by decide, by decide +kernel⟩
set_option maxHeartbeats 4000000 in
set_option maxRecDepth 100000 in
theorem c_TX_add (l0 : Launch) (D : GG) (t : Nat) (L : List Int) (x : Int) (hx : 0 ≤ x ∧ x < 65536) : Ct l0 D y_TX_add b_TX_add 2 (Option.some FieldType.boolean) ({ frames := 0, cells := 0, slots := 0, locals := 0 } : Room) [.ref t, zV x] (fun H => isT D H t L) (rA t (t + 2)) 0 0 (q_TX_add D t L x) := by
  refine Ct.of (L := [(0, .ref t), (1, zV x)]) (by decide) (Nat.le_of_ble_eq_true rfl) rfl (fun M H ho hr hnm hH hpre => ?_)
  have hT := hpre
  obtain ⟨h_o, ⟨f, h_a, h_f⟩, h_n, h_w⟩ := id hT
  refine x_aload_n ho 0 d_TX_add_0 rfl ?_
  refine x_get 1 ho d_TX_add_1 cl_TX (by decide) g_153 h_o rfl ?_
  refine x_aload_n ho 0 d_TX_add_4 rfl ?_
  refine x_get 0 ho d_TX_add_5 cl_TX (by decide) g_152 h_o rfl ?_
  refine x_alenC ho d_TX_add_8 h_a ?_
  refine x_icmp_lt (tgt := 14) ho d_TX_add_9 (by decide) (by omega) (by omega) (fun c_9 => ?_) (fun c_9 => ?_)
  ·
    refine x_aload_n ho 0 d_TX_add_14 rfl ?_
    refine x_get 0 ho d_TX_add_15 cl_TX (by decide) g_152 h_o rfl ?_
    refine x_aload_n ho 0 d_TX_add_18 rfl ?_
    refine x_get 1 ho d_TX_add_19 cl_TX (by decide) g_153 h_o rfl ?_
    refine x_iload_n ho 1 d_TX_add_22 rfl ?_
    refine x_cast ho d_TX_add_23 h_a (by omega) (by omega) (by omega) (by exact nar_c hx.1 hx.2) (rA_in (by omega) (by omega)) (fun H_1 p_2 z_3 q_4 => ?_)
    have k_5 := h_o.kept (q_4 _ (by omega))
    refine x_aload_n ho 0 d_TX_add_24 rfl ?_
    refine x_dup ho d_TX_add_25 rfl ?_
    refine x_get 1 ho d_TX_add_26 cl_TX (by decide) g_153 k_5 rfl ?_
    refine x_iconst ho d_TX_add_29 ?_
    refine x_iadd ho d_TX_add_30 ?_
    refine x_put 1 ho d_TX_add_31 cl_TX (by decide) g_153 k_5 rfl rfl rfl (Nat.le_of_ble_eq_true rfl) (rA_in (by omega) (by omega)) (fun H_6 p_7 z_8 q_9 => ?_)
    have k_10 := p_2.kept (q_9 _ (by omega))
    refine x_iconst ho d_TX_add_34 ?_
    refine x_zret ho hr (Or.inr rfl) d_TX_add_35 ?_
    exact Or.inl ⟨rfl, by omega, isT_push p_7 k_10 h_f (by omega) h_w hx.1 hx.2⟩
  ·
    refine x_iconst ho d_TX_add_12 ?_
    refine x_zret ho hr (Or.inl rfl) d_TX_add_13 ?_
    exact Or.inr ⟨rfl, by omega, hT⟩
def q_TX_hasAt (D : GG) (t : Nat) (L : List Int) (z : Int) (x : Int) : Option Value → Heap → Prop := fun v0 H => (v0 = some (zV (bI (0 ≤ z ∧ z < (L.length : Int) ∧ gA L z = x))))
theorem yv_TX_hasAt : Yv y_TX_hasAt b_TX_hasAt 3 (Option.some FieldType.boolean) 2 := ⟨g_319, g_57, by decide, by decide +kernel⟩
set_option maxHeartbeats 4000000 in
set_option maxRecDepth 100000 in
theorem c_TX_hasAt (l0 : Launch) (D : GG) (t : Nat) (L : List Int) (z : Int) (x : Int) (hz : -2147483648 ≤ z ∧ z ≤ 2147483647) (hx : -2147483648 ≤ x ∧ x ≤ 2147483647) : Ct l0 D y_TX_hasAt b_TX_hasAt 3 (Option.some FieldType.boolean) ({ frames := 0, cells := 0, slots := 0, locals := 0 } : Room) [.ref t, zV z, zV x] (fun H => isT D H t L) nA 0 0 (q_TX_hasAt D t L z x) := by
  refine Ct.of (L := [(0, .ref t), (1, zV z), (2, zV x)]) (by decide) (Nat.le_of_ble_eq_true rfl) rfl (fun M H ho hr hnm hH hpre => ?_)
  have hT := hpre
  obtain ⟨h_o, ⟨f, h_a, h_f⟩, h_n, h_w⟩ := id hT
  refine x_iload_n ho 1 d_TX_hasAt_0 rfl ?_
  refine x_if_lt (tgt := 26) ho d_TX_hasAt_1 (by decide) (by omega) (fun c_1 => ?_) (fun c_1 => ?_)
  ·
    refine x_iconst ho d_TX_hasAt_26 ?_
    refine x_zret ho hr (Or.inl rfl) d_TX_hasAt_27 ?_
    exact rF (by omega)
  ·
    refine x_iload_n ho 1 d_TX_hasAt_4 rfl ?_
    refine x_aload_n ho 0 d_TX_hasAt_5 rfl ?_
    refine x_get 1 ho d_TX_hasAt_6 cl_TX (by decide) g_153 h_o rfl ?_
    refine x_icmp_ge (tgt := 26) ho d_TX_hasAt_9 (by decide) (by omega) (by omega) (fun c_9 => ?_) (fun c_9 => ?_)
    ·
      refine x_iconst ho d_TX_hasAt_26 ?_
      refine x_zret ho hr (Or.inl rfl) d_TX_hasAt_27 ?_
      exact rF (by omega)
    ·
      refine x_aload_n ho 0 d_TX_hasAt_12 rfl ?_
      refine x_get 0 ho d_TX_hasAt_13 cl_TX (by decide) g_152 h_o rfl ?_
      refine x_iload_n ho 1 d_TX_hasAt_16 rfl ?_
      refine x_cald ho d_TX_hasAt_17 h_a (by omega) (by omega) (by omega) ?_
      refine x_eqI (b := gA L z) (by exact h_f _ (by omega) (by omega)) ?_
      have hc := gA_c h_w z
      refine x_iload_n ho 2 d_TX_hasAt_18 rfl ?_
      refine x_icmp_ne (tgt := 26) ho d_TX_hasAt_19 (by decide) (by omega) (by omega) (fun c_19 => ?_) (fun c_19 => ?_)
      ·
        refine x_iconst ho d_TX_hasAt_26 ?_
        refine x_zret ho hr (Or.inl rfl) d_TX_hasAt_27 ?_
        exact rF (by omega)
      ·
        refine x_iconst ho d_TX_hasAt_22 ?_
        refine x_goto (tgt := 27) ho d_TX_hasAt_23 (by decide) ?_
        refine x_zret ho hr (Or.inr rfl) d_TX_hasAt_27 ?_
        exact rT (by omega)
def q_TX_letterAt (D : GG) (t : Nat) (L : List Int) (z : Int) : Option Value → Heap → Prop := fun v0 H => v0 = some (zV (tlat L z)) ∧ (-1 ≤ tlat L z ∧ tlat L z < 4)
theorem yv_TX_letterAt : Yv y_TX_letterAt b_TX_letterAt 3 (Option.some FieldType.int) 1 := ⟨g_312, g_57, by decide, by decide +kernel⟩
set_option maxHeartbeats 4000000 in
set_option maxRecDepth 100000 in
theorem c_TX_letterAt (l0 : Launch) (D : GG) (t : Nat) (L : List Int) (z : Int) (hz : -2147483648 ≤ z ∧ z ≤ 2147483647) : Ct l0 D y_TX_letterAt b_TX_letterAt 3 (Option.some FieldType.int) ({ frames := 1, cells := 0, slots := 0, locals := 20 } : Room) [.ref t, zV z] (fun H => isT D H t L) nA 0 0 (q_TX_letterAt D t L z) := by
  refine Ct.of (L := [(0, .ref t), (1, zV z)]) (by decide) (Nat.le_of_ble_eq_true rfl) rfl (fun M H ho hr hnm hH hpre => ?_)
  have hT := hpre
  obtain ⟨h_o, ⟨f, h_a, h_f⟩, h_n, h_w⟩ := id hT
  refine x_iload_n ho 1 d_TX_letterAt_0 rfl ?_
  refine x_if_lt (tgt := 12) ho d_TX_letterAt_1 (by decide) (by omega) (fun c_1 => ?_) (fun c_1 => ?_)
  ·
    refine x_iconst ho d_TX_letterAt_12 ?_
    refine x_iret ho hr d_TX_letterAt_13 ?_
    have e : tlat L z = -1 := if_neg (by omega)
    exact ⟨by rw [e], by omega⟩
  ·
    refine x_iload_n ho 1 d_TX_letterAt_4 rfl ?_
    refine x_aload_n ho 0 d_TX_letterAt_5 rfl ?_
    refine x_get 1 ho d_TX_letterAt_6 cl_TX (by decide) g_153 h_o rfl ?_
    refine x_icmp_lt (tgt := 14) ho d_TX_letterAt_9 (by decide) (by omega) (by omega) (fun c_9 => ?_) (fun c_9 => ?_)
    ·
      refine x_aload_n ho 0 d_TX_letterAt_14 rfl ?_
      refine x_get 0 ho d_TX_letterAt_15 cl_TX (by decide) g_152 h_o rfl ?_
      refine x_iload_n ho 1 d_TX_letterAt_18 rfl ?_
      refine x_cald ho d_TX_letterAt_19 h_a (by omega) (by omega) (by omega) ?_
      refine x_eqI (b := gA L z) (by exact h_f _ (by omega) (by omega)) ?_
      have hc := gA_c h_w z
      have e : tlat L z = ltr (gA L z) := tlat_in (by omega) (by omega)
      have er := ltr_r (gA L z)
      refine x_bipush (z := 97) ho d_TX_letterAt_20 (by decide) ?_
      refine x_isub ho d_TX_letterAt_22 ?_
      refine x_istore_n (L' := [(2, zV ((gA L z) - 97)), (0, .ref t), (1, zV z)]) ho d_TX_letterAt_23 (by decide) rfl ?_
      refine x_iload_n ho 0 d_TX_letterAt_24 rfl ?_
      refine x_callSN (host := "MorphWords") (rest := []) ho d_TX_letterAt_25 yv_MW_isLetter g_107 (List.mem_of_getElem? (i := 8) rfl) (c_MW_isLetter M.2.1 D ((gA L z) - 97) (by omega)) rfl rfl ⟨Nat.le_of_ble_eq_true rfl, Nat.le_of_ble_eq_true rfl⟩ ⟨Nat.le_of_ble_eq_true rfl, Nat.le_of_ble_eq_true rfl⟩ rfl rfl (Nat.le_of_ble_eq_true rfl) trivial fr_none' (x_rd (fun v_1 hv_1 => ?_))
      obtain rfl := hv_1
      show X _ _ _ _ _ _ _ _ _ [zV (bI (0 ≤ ((gA L z) - 97) ∧ ((gA L z) - 97) < 4))] _
      refine x_if_eqB (tgt := 35) ho d_TX_letterAt_28 (by decide) (fun c_28 => ?_) (fun c_28 => ?_)
      ·
        refine x_iconst ho d_TX_letterAt_35 ?_
        refine x_iret ho hr d_TX_letterAt_36 ?_
        have e2 : ltr (gA L z) = -1 := if_neg (by omega)
        exact ⟨by rw [e, e2], by omega⟩
      ·
        refine x_iload_n ho 0 d_TX_letterAt_31 rfl ?_
        refine x_goto (tgt := 36) ho d_TX_letterAt_32 (by decide) ?_
        refine x_iret ho hr d_TX_letterAt_36 ?_
        have e2 : ltr (gA L z) = gA L z - 97 := if_pos (by omega)
        exact ⟨by rw [e, e2], by omega⟩
    ·
      refine x_iconst ho d_TX_letterAt_12 ?_
      refine x_iret ho hr d_TX_letterAt_13 ?_
      have e : tlat L z = -1 := if_neg (by omega)
      exact ⟨by rw [e], by omega⟩
def q_TX_parts (D : GG) (t : Nat) (L : List Int) : Option Value → Heap → Prop := fun v0 H => v0 = some (zV (1 + cn L 59)) ∧ (0 ≤ cn L 59 ∧ cn L 59 ≤ 60)
theorem yv_TX_parts : Yv y_TX_parts b_TX_parts 3 (Option.some FieldType.int) 0 := ⟨g_360, g_57, by decide, by decide +kernel⟩
set_option maxHeartbeats 4000000 in
set_option maxRecDepth 100000 in
theorem c_TX_parts (l0 : Launch) (D : GG) (t : Nat) (L : List Int)  : Ct l0 D y_TX_parts b_TX_parts 3 (Option.some FieldType.int) ({ frames := 1, cells := 0, slots := 0, locals := 22 } : Room) [.ref t] (fun H => isT D H t L) nA 0 0 (q_TX_parts D t L) := by
  refine Ct.of (L := [(0, .ref t)]) (by decide) (Nat.le_of_ble_eq_true rfl) rfl (fun M H ho hr hnm hH hpre => ?_)
  have hT := hpre
  have h_b := hT.b
  refine x_iconst ho d_TX_parts_0 ?_
  refine x_istore_n (L' := [(1, zV 1), (0, .ref t)]) ho d_TX_parts_1 (by decide) rfl ?_
  refine x_iconst ho d_TX_parts_2 ?_
  refine x_istore_n (L' := [(2, zV 0), (1, zV 1), (0, .ref t)]) ho d_TX_parts_3 (by decide) rfl ?_
  have loop_4 : ∀ (kk : Nat) (i : Int) (u : Int) (i0 : 0 ≤ i ∧ i ≤ (L.length : Int)) (hu : u = 1 + cn (tk L i) 59), ((L.length : Int) - i).toNat < kk → X M ({ frames := 1, cells := 0, slots := 0, locals := 22 } : Room) 3 nA 0 0 (Qof M nA (q_TX_parts D t L) 0 0) 4 [(2, zV i), (1, zV u), (0, .ref t)] [] H := by
    intro kk
    induction kk with
    | zero => intro i u i0 hu hk; exact absurd hk (Nat.not_lt_zero _)
    | succ kk ih_4 =>
      intro i u i0 hu hk_4
      refine x_iload_n ho 0 d_TX_parts_4 rfl ?_
      refine x_aload_n ho 2 d_TX_parts_5 rfl ?_
      refine x_get 1 ho d_TX_parts_6 cl_TX (by decide) g_153 hT.1 rfl ?_
      refine x_icmp_ge (tgt := 31) ho d_TX_parts_9 (by decide) (by omega) (by omega) (fun c_9 => ?_) (fun c_9 => ?_)
      ·
        refine x_iload_n ho 1 d_TX_parts_31 rfl ?_
        refine x_iret ho hr d_TX_parts_32 ?_
        rw [tk_all (by omega)] at hu; subst hu; have := cn_r L 59; exact ⟨rfl, by omega⟩
      ·
        refine x_aload_n ho 2 d_TX_parts_12 rfl ?_
        refine x_iload_n ho 0 d_TX_parts_13 rfl ?_
        refine x_bipush (z := 59) ho d_TX_parts_14 (by decide) ?_
        refine x_callV (rest := []) ho d_TX_parts_16 yv_TX_hasAt g_318 g_1 g_317 (c_TX_hasAt M.2.1 D t L i 59 (by omega) (by omega)) rfl rfl ⟨Nat.le_of_ble_eq_true rfl, Nat.le_of_ble_eq_true rfl⟩ ⟨Nat.le_of_ble_eq_true rfl, Nat.le_of_ble_eq_true rfl⟩ rfl rfl (Nat.le_of_ble_eq_true rfl) hT.1 rfl rfl hT fr_none' (x_rd (fun v_1 hv_1 => ?_))
        obtain rfl := hv_1
        show X _ _ _ _ _ _ _ _ _ [zV (bI (0 ≤ i ∧ i < (L.length : Int) ∧ gA L i = 59))] _
        refine x_if_eqB (tgt := 25) ho d_TX_parts_19 (by decide) (fun c_19 => ?_) (fun c_19 => ?_)
        ·
          refine x_iinc (L' := [(2, zV (i + 1)), (1, zV u), (0, .ref t)]) ho 0 d_TX_parts_25 rfl rfl (by decide) rfl ?_
          refine x_goto (tgt := 4) ho d_TX_parts_28 (by decide) ?_
          exact ih_4 (i + 1) u (by omega) (by rw [cn_tk (by omega) (by omega)]; first | (rw [if_pos c_19.2.2]; omega) | (rw [if_neg (fun q => c_19 ⟨by omega, by omega, q⟩)]; omega)) (by omega)
        ·
          refine x_iinc (L' := [(1, zV (u + 1)), (2, zV i), (0, .ref t)]) ho 1 d_TX_parts_22 rfl rfl (by decide) rfl ?_
          refine x_iinc (L' := [(2, zV (i + 1)), (1, zV (u + 1)), (0, .ref t)]) ho 1 d_TX_parts_25 rfl rfl (by decide) rfl ?_
          refine x_goto (tgt := 4) ho d_TX_parts_28 (by decide) ?_
          exact ih_4 (i + 1) (u + 1) (by omega) (by rw [cn_tk (by omega) (by omega)]; first | (rw [if_pos c_19.2.2]; omega) | (rw [if_neg (fun q => c_19 ⟨by omega, by omega, q⟩)]; omega)) (by omega)
  exact loop_4 _ 0 1 (by omega) (by rw [tk_0]; rfl) (Nat.lt_succ_self _)
