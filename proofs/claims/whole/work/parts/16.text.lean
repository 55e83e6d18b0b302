def q_TX_length (D : GG) (t : Nat) (L : List Int) : Option Value → Heap → Prop := fun v0 H => v0 = some (zV ((L.length : Int))) ∧ L.length ≤ 60
theorem yv_TX_length : Yv y_TX_length b_TX_length 1 (Option.some FieldType.int) 0 := ⟨g_513, g_59, by decide, by decide +kernel⟩
set_option maxHeartbeats 4000000 in
set_option maxRecDepth 100000 in
theorem c_TX_length (l0 : Launch) (D : GG) (t : Nat) (L : List Int)  : Ct l0 D y_TX_length b_TX_length 1 (Option.some FieldType.int) ({ frames := 0, cells := 0, slots := 0, locals := 0 } : Room) [.ref t] (fun H => isT D H t L) nA 0 0 (q_TX_length D t L) := by
  refine Ct.of (L := [(0, .ref t)]) (by decide) (Nat.le_of_ble_eq_true rfl) rfl (fun M H ho hr hnm hH hpre => ?_)
  have hT := hpre
  refine x_aload_n ho 0 d_TX_length_0 rfl ?_
  refine x_get 1 ho d_TX_length_1 cl_TX (by decide) g_155 hT.1 rfl ?_
  refine x_iret ho hr d_TX_length_4 ?_
  exact ⟨rfl, (by exact hT.b)⟩
def q_TX_clear (D : GG) (t : Nat) (L : List Int) : Option Value → Heap → Prop := fun v0 H => v0 = none ∧ isT D H t ([])
theorem yv_TX_clear : Yv y_TX_clear b_TX_clear 1 (Option.none : Option FieldType) 0 := ⟨g_521, g_59, by decide, by decide +kernel⟩
set_option maxHeartbeats 4000000 in
set_option maxRecDepth 100000 in
theorem c_TX_clear (l0 : Launch) (D : GG) (t : Nat) (L : List Int)  : Ct l0 D y_TX_clear b_TX_clear 1 (Option.none : Option FieldType) ({ frames := 0, cells := 0, slots := 0, locals := 0 } : Room) [.ref t] (fun H => isT D H t L) (rA t (t + 2)) 0 0 (q_TX_clear D t L) := by
  refine Ct.of (L := [(0, .ref t)]) (by decide) (Nat.le_of_ble_eq_true rfl) rfl (fun M H ho hr hnm hH hpre => ?_)
  have hT := hpre
  obtain ⟨h_o, ⟨f, h_a, h_f⟩, h_n, h_w⟩ := id hT
  refine x_aload_n ho 0 d_TX_clear_0 rfl ?_
  refine x_iconst ho d_TX_clear_1 ?_
  refine x_put 1 ho d_TX_clear_2 cl_TX (by decide) g_155 h_o rfl rfl rfl (Nat.le_of_ble_eq_true rfl) (rA_in (by omega) (by omega)) (fun H_1 p_2 z_3 q_4 => ?_)
  have k_5 := h_a.kept (q_4 _ (by omega))
  refine x_vret ho hr d_TX_clear_5 ?_
  exact ⟨rfl, isT_mk p_2 k_5 rfl (fun j h0 h1 => by simp at h1; omega) (Nat.zero_le _) (fun _ h => by cases h)⟩
def q_TX_add (D : GG) (t : Nat) (L : List Int) (x : Int) : Option Value → Heap → Prop := fun v0 H => (v0 = some (zV 1) ∧ (L.length : Int) < 60 ∧ isT D H t (L ++ [x])) ∨ (v0 = some (zV 0) ∧ ¬ (L.length : Int) < 60 ∧ isT D H t L)
theorem yv_TX_add : Yv y_TX_add b_TX_add 2 (Option.some FieldType.boolean) 1 := ⟨g_509, g_59, by decide, by decide +kernel⟩
set_option maxHeartbeats 4000000 in
set_option maxRecDepth 100000 in
theorem c_TX_add (l0 : Launch) (D : GG) (t : Nat) (L : List Int) (x : Int) (hx : 0 ≤ x ∧ x < 65536) : Ct l0 D y_TX_add b_TX_add 2 (Option.some FieldType.boolean) ({ frames := 0, cells := 0, slots := 0, locals := 0 } : Room) [.ref t, zV x] (fun H => isT D H t L) (rA t (t + 2)) 0 0 (q_TX_add D t L x) := by
  refine Ct.of (L := [(0, .ref t), (1, zV x)]) (by decide) (Nat.le_of_ble_eq_true rfl) rfl (fun M H ho hr hnm hH hpre => ?_)
  have hT := hpre
  obtain ⟨h_o, ⟨f, h_a, h_f⟩, h_n, h_w⟩ := id hT
  refine x_aload_n ho 0 d_TX_add_0 rfl ?_
  refine x_get 1 ho d_TX_add_1 cl_TX (by decide) g_155 h_o rfl ?_
  refine x_aload_n ho 0 d_TX_add_4 rfl ?_
  refine x_get 0 ho d_TX_add_5 cl_TX (by decide) g_154 h_o rfl ?_
  refine x_alenC ho d_TX_add_8 h_a ?_
  refine x_icmp_lt (tgt := 14) ho d_TX_add_9 (by decide) (by omega) (by omega) (fun c_9 => ?_) (fun c_9 => ?_)
  ·
    refine x_aload_n ho 0 d_TX_add_14 rfl ?_
    refine x_get 0 ho d_TX_add_15 cl_TX (by decide) g_154 h_o rfl ?_
    refine x_aload_n ho 0 d_TX_add_18 rfl ?_
    refine x_get 1 ho d_TX_add_19 cl_TX (by decide) g_155 h_o rfl ?_
    refine x_iload_n ho 1 d_TX_add_22 rfl ?_
    refine x_cast ho d_TX_add_23 h_a (by omega) (by omega) (by omega) (by exact nar_c hx.1 hx.2) (rA_in (by omega) (by omega)) (fun H_1 p_2 z_3 q_4 => ?_)
    have k_5 := h_o.kept (q_4 _ (by omega))
    refine x_aload_n ho 0 d_TX_add_24 rfl ?_
    refine x_dup ho d_TX_add_25 rfl ?_
    refine x_get 1 ho d_TX_add_26 cl_TX (by decide) g_155 k_5 rfl ?_
    refine x_iconst ho d_TX_add_29 ?_
    refine x_iadd ho d_TX_add_30 ?_
    refine x_put 1 ho d_TX_add_31 cl_TX (by decide) g_155 k_5 rfl rfl rfl (Nat.le_of_ble_eq_true rfl) (rA_in (by omega) (by omega)) (fun H_6 p_7 z_8 q_9 => ?_)
    have k_10 := p_2.kept (q_9 _ (by omega))
    refine x_iconst ho d_TX_add_34 ?_
    refine x_zret ho hr (Or.inr rfl) d_TX_add_35 ?_
    exact Or.inl ⟨rfl, by omega, isT_push p_7 k_10 h_f (by omega) h_w hx.1 hx.2⟩
  ·
    refine x_iconst ho d_TX_add_12 ?_
    refine x_zret ho hr (Or.inl rfl) d_TX_add_13 ?_
    exact Or.inr ⟨rfl, by omega, hT⟩
def q_TX_hasAt (D : GG) (t : Nat) (L : List Int) (z : Int) (x : Int) : Option Value → Heap → Prop := fun v0 H => (v0 = some (zV (bI (0 ≤ z ∧ z < (L.length : Int) ∧ gA L z = x))))
theorem yv_TX_hasAt : Yv y_TX_hasAt b_TX_hasAt 3 (Option.some FieldType.boolean) 2 := ⟨g_321, g_59, by decide, by decide +kernel⟩
set_option maxHeartbeats 4000000 in
set_option maxRecDepth 100000 in
theorem c_TX_hasAt (l0 : Launch) (D : GG) (t : Nat) (L : List Int) (z : Int) (x : Int) (hz : -2147483648 ≤ z ∧ z ≤ 2147483647) (hx : -2147483648 ≤ x ∧ x ≤ 2147483647) : Ct l0 D y_TX_hasAt b_TX_hasAt 3 (Option.some FieldType.boolean) ({ frames := 0, cells := 0, slots := 0, locals := 0 } : Room) [.ref t, zV z, zV x] (fun H => isT D H t L) nA 0 0 (q_TX_hasAt D t L z x) := by
  refine Ct.of (L := [(0, .ref t), (1, zV z), (2, zV x)]) (by decide) (Nat.le_of_ble_eq_true rfl) rfl (fun M H ho hr hnm hH hpre => ?_)
  have hT := hpre
  obtain ⟨h_o, ⟨f, h_a, h_f⟩, h_n, h_w⟩ := id hT
  refine x_iload_n ho 1 d_TX_hasAt_0 rfl ?_
  refine x_if_lt (tgt := 26) ho d_TX_hasAt_1 (by decide) (by omega) (fun c_1 => ?_) (fun c_1 => ?_)
  ·
    refine x_iconst ho d_TX_hasAt_26 ?_
    refine x_zret ho hr (Or.inl rfl) d_TX_hasAt_27 ?_
    exact rF (by omega)
  ·
    refine x_iload_n ho 1 d_TX_hasAt_4 rfl ?_
    refine x_aload_n ho 0 d_TX_hasAt_5 rfl ?_
    refine x_get 1 ho d_TX_hasAt_6 cl_TX (by decide) g_155 h_o rfl ?_
    refine x_icmp_ge (tgt := 26) ho d_TX_hasAt_9 (by decide) (by omega) (by omega) (fun c_9 => ?_) (fun c_9 => ?_)
    ·
      refine x_iconst ho d_TX_hasAt_26 ?_
      refine x_zret ho hr (Or.inl rfl) d_TX_hasAt_27 ?_
      exact rF (by omega)
    ·
      refine x_aload_n ho 0 d_TX_hasAt_12 rfl ?_
      refine x_get 0 ho d_TX_hasAt_13 cl_TX (by decide) g_154 h_o rfl ?_
      refine x_iload_n ho 1 d_TX_hasAt_16 rfl ?_
      refine x_cald ho d_TX_hasAt_17 h_a (by omega) (by omega) (by omega) ?_
      refine x_eqI (b := gA L z) (by exact h_f _ (by omega) (by omega)) ?_
      have hc := gA_c h_w z
      refine x_iload_n ho 2 d_TX_hasAt_18 rfl ?_
      refine x_icmp_ne (tgt := 26) ho d_TX_hasAt_19 (by decide) (by omega) (by omega) (fun c_19 => ?_) (fun c_19 => ?_)
      ·
        refine x_iconst ho d_TX_hasAt_26 ?_
        refine x_zret ho hr (Or.inl rfl) d_TX_hasAt_27 ?_
        exact rF (by omega)
      ·
        refine x_iconst ho d_TX_hasAt_22 ?_
        refine x_goto (tgt := 27) ho d_TX_hasAt_23 (by decide) ?_
        refine x_zret ho hr (Or.inr rfl) d_TX_hasAt_27 ?_
        exact rT (by omega)
def q_TX_letterAt (D : GG) (t : Nat) (L : List Int) (z : Int) : Option Value → Heap → Prop := fun v0 H => v0 = some (zV (tlat L z)) ∧ (-1 ≤ tlat L z ∧ tlat L z < 4)
theorem yv_TX_letterAt : Yv y_TX_letterAt b_TX_letterAt 3 (Option.some FieldType.int) 1 := ⟨g_314, g_59, by decide, by decide +kernel⟩
set_option maxHeartbeats 4000000 in
set_option maxRecDepth 100000 in
theorem c_TX_letterAt (l0 : Launch) (D : GG) (t : Nat) (L : List Int) (z : Int) (hz : -2147483648 ≤ z ∧ z ≤ 2147483647) : Ct l0 D y_TX_letterAt b_TX_letterAt 3 (Option.some FieldType.int) ({ frames := 1, cells := 0, slots := 0, locals := 20 } : Room) [.ref t, zV z] (fun H => isT D H t L) nA 0 0 (q_TX_letterAt D t L z) := by
  refine Ct.of (L := [(0, .ref t), (1, zV z)]) (by decide) (Nat.le_of_ble_eq_true rfl) rfl (fun M H ho hr hnm hH hpre => ?_)
  have hT := hpre
  obtain ⟨h_o, ⟨f, h_a, h_f⟩, h_n, h_w⟩ := id hT
  refine x_iload_n ho 1 d_TX_letterAt_0 rfl ?_
  refine x_if_lt (tgt := 12) ho d_TX_letterAt_1 (by decide) (by omega) (fun c_1 => ?_) (fun c_1 => ?_)
  ·
    refine x_iconst ho d_TX_letterAt_12 ?_
    refine x_iret ho hr d_TX_letterAt_13 ?_
    have e : tlat L z = -1 := if_neg (by omega)
    exact ⟨by rw [e], by omega⟩
  ·
    refine x_iload_n ho 1 d_TX_letterAt_4 rfl ?_
    refine x_aload_n ho 0 d_TX_letterAt_5 rfl ?_
    refine x_get 1 ho d_TX_letterAt_6 cl_TX (by decide) g_155 h_o rfl ?_
    refine x_icmp_lt (tgt := 14) ho d_TX_letterAt_9 (by decide) (by omega) (by omega) (fun c_9 => ?_) (fun c_9 => ?_)
    ·
      refine x_aload_n ho 0 d_TX_letterAt_14 rfl ?_
      refine x_get 0 ho d_TX_letterAt_15 cl_TX (by decide) g_154 h_o rfl ?_
      refine x_iload_n ho 1 d_TX_letterAt_18 rfl ?_
      refine x_cald ho d_TX_letterAt_19 h_a (by omega) (by omega) (by omega) ?_
      refine x_eqI (b := gA L z) (by exact h_f _ (by omega) (by omega)) ?_
      have hc := gA_c h_w z
      have e : tlat L z = ltr (gA L z) := tlat_in (by omega) (by omega)
      have er := ltr_r (gA L z)
      refine x_bipush (z := 97) ho d_TX_letterAt_20 (by decide) ?_
      refine x_isub ho d_TX_letterAt_22 ?_
      refine x_istore_n (L' := [(2, zV ((gA L z) - 97)), (0, .ref t), (1, zV z)]) ho d_TX_letterAt_23 (by decide) rfl ?_
      refine x_iload_n ho 0 d_TX_letterAt_24 rfl ?_
      refine x_callSN (host := "MorphWords") (rest := []) ho d_TX_letterAt_25 yv_MW_isLetter g_109 (List.mem_of_getElem? (i := 8) rfl) (c_MW_isLetter M.2.1 D ((gA L z) - 97) (by omega)) rfl rfl ⟨Nat.le_of_ble_eq_true rfl, Nat.le_of_ble_eq_true rfl⟩ ⟨Nat.le_of_ble_eq_true rfl, Nat.le_of_ble_eq_true rfl⟩ rfl rfl (Nat.le_of_ble_eq_true rfl) trivial fr_none' (x_rd (fun v_1 hv_1 => ?_))
      obtain rfl := hv_1
      show X _ _ _ _ _ _ _ _ _ [zV (bI (0 ≤ ((gA L z) - 97) ∧ ((gA L z) - 97) < 4))] _
      refine x_if_eqB (tgt := 35) ho d_TX_letterAt_28 (by decide) (fun c_28 => ?_) (fun c_28 => ?_)
      ·
        refine x_iconst ho d_TX_letterAt_35 ?_
        refine x_iret ho hr d_TX_letterAt_36 ?_
        have e2 : ltr (gA L z) = -1 := if_neg (by omega)
        exact ⟨by rw [e, e2], by omega⟩
      ·
        refine x_iload_n ho 0 d_TX_letterAt_31 rfl ?_
        refine x_goto (tgt := 36) ho d_TX_letterAt_32 (by decide) ?_
        refine x_iret ho hr d_TX_letterAt_36 ?_
        have e2 : ltr (gA L z) = gA L z - 97 := if_pos (by omega)
        exact ⟨by rw [e, e2], by omega⟩
    ·
      refine x_iconst ho d_TX_letterAt_12 ?_
      refine x_iret ho hr d_TX_letterAt_13 ?_
      have e : tlat L z = -1 := if_neg (by omega)
      exact ⟨by rw [e], by omega⟩
def q_TX_parts (D : GG) (t : Nat) (L : List Int) : Option Value → Heap → Prop := fun v0 H => v0 = some (zV (1 + cn L 59)) ∧ (0 ≤ cn L 59 ∧ cn L 59 ≤ 60)
theorem yv_TX_parts : Yv y_TX_parts b_TX_parts 3 (Option.some FieldType.int) 0 := ⟨g_362, g_59, by decide, by decide +kernel⟩
set_option maxHeartbeats 4000000 in
set_option maxRecDepth 100000 in
theorem c_TX_parts (l0 : Launch) (D : GG) (t : Nat) (L : List Int)  : Ct l0 D y_TX_parts b_TX_parts 3 (Option.some FieldType.int) ({ frames := 1, cells := 0, slots := 0, locals := 22 } : Room) [.ref t] (fun H => isT D H t L) nA 0 0 (q_TX_parts D t L) := by
  refine Ct.of (L := [(0, .ref t)]) (by decide) (Nat.le_of_ble_eq_true rfl) rfl (fun M H ho hr hnm hH hpre => ?_)
  have hT := hpre
  have h_b := hT.b
  refine x_iconst ho d_TX_parts_0 ?_
  refine x_istore_n (L' := [(1, zV 1), (0, .ref t)]) ho d_TX_parts_1 (by decide) rfl ?_
  refine x_iconst ho d_TX_parts_2 ?_
  refine x_istore_n (L' := [(2, zV 0), (1, zV 1), (0, .ref t)]) ho d_TX_parts_3 (by decide) rfl ?_
  have loop_4 : ∀ (kk : Nat) (i : Int) (u : Int) (i0 : 0 ≤ i ∧ i ≤ (L.length : Int)) (hu : u = 1 + cn (tk L i) 59), ((L.length : Int) - i).toNat < kk → X M ({ frames := 1, cells := 0, slots := 0, locals := 22 } : Room) 3 nA 0 0 (Qof M nA (q_TX_parts D t L) 0 0) 4 [(2, zV i), (1, zV u), (0, .ref t)] [] H := by
    intro kk
    induction kk with
    | zero => intro i u i0 hu hk; exact absurd hk (Nat.not_lt_zero _)
    | succ kk ih_4 =>
      intro i u i0 hu hk_4
      refine x_iload_n ho 0 d_TX_parts_4 rfl ?_
      refine x_aload_n ho 2 d_TX_parts_5 rfl ?_
      refine x_get 1 ho d_TX_parts_6 cl_TX (by decide) g_155 hT.1 rfl ?_
      refine x_icmp_ge (tgt := 31) ho d_TX_parts_9 (by decide) (by omega) (by omega) (fun c_9 => ?_) (fun c_9 => ?_)
      ·
        refine x_iload_n ho 1 d_TX_parts_31 rfl ?_
        refine x_iret ho hr d_TX_parts_32 ?_
        rw [tk_all (by omega)] at hu; subst hu; have := cn_r L 59; exact ⟨rfl, by omega⟩
      ·
        refine x_aload_n ho 2 d_TX_parts_12 rfl ?_
        refine x_iload_n ho 0 d_TX_parts_13 rfl ?_
        refine x_bipush (z := 59) ho d_TX_parts_14 (by decide) ?_
        refine x_callV (rest := []) ho d_TX_parts_16 yv_TX_hasAt g_320 g_1 g_319 (c_TX_hasAt M.2.1 D t L i 59 (by omega) (by omega)) rfl rfl ⟨Nat.le_of_ble_eq_true rfl, Nat.le_of_ble_eq_true rfl⟩ ⟨Nat.le_of_ble_eq_true rfl, Nat.le_of_ble_eq_true rfl⟩ rfl rfl (Nat.le_of_ble_eq_true rfl) hT.1 rfl rfl hT fr_none' (x_rd (fun v_1 hv_1 => ?_))
        obtain rfl := hv_1
        show X _ _ _ _ _ _ _ _ _ [zV (bI (0 ≤ i ∧ i < (L.length : Int) ∧ gA L i = 59))] _
        refine x_if_eqB (tgt := 25) ho d_TX_parts_19 (by decide) (fun c_19 => ?_) (fun c_19 => ?_)
        ·
          refine x_iinc (L' := [(2, zV (i + 1)), (1, zV u), (0, .ref t)]) ho 0 d_TX_parts_25 rfl rfl (by decide) rfl ?_
          refine x_goto (tgt := 4) ho d_TX_parts_28 (by decide) ?_
          exact ih_4 (i + 1) u (by omega) (by rw [cn_tk (by omega) (by omega)]; first | (rw [if_pos c_19.2.2]; omega) | (rw [if_neg (fun q => c_19 ⟨by omega, by omega, q⟩)]; omega)) (by omega)
        ·
          refine x_iinc (L' := [(1, zV (u + 1)), (2, zV i), (0, .ref t)]) ho 1 d_TX_parts_22 rfl rfl (by decide) rfl ?_
          refine x_iinc (L' := [(2, zV (i + 1)), (1, zV (u + 1)), (0, .ref t)]) ho 1 d_TX_parts_25 rfl rfl (by decide) rfl ?_
          refine x_goto (tgt := 4) ho d_TX_parts_28 (by decide) ?_
          exact ih_4 (i + 1) (u + 1) (by omega) (by rw [cn_tk (by omega) (by omega)]; first | (rw [if_pos c_19.2.2]; omega) | (rw [if_neg (fun q => c_19 ⟨by omega, by omega, q⟩)]; omega)) (by omega)
  exact loop_4 _ 0 1 (by omega) (by rw [tk_0]; rfl) (Nat.lt_succ_self _)
def q_TX_readInto2 (D : GG) (t : Nat) (L : List Int) (o : Nat) (K : List Int) : Option Value → Heap → Prop := fun v0 H => v0 = some (zV ((pau L [] 0).1)) ∧ isT D H t L ∧ isL D H o 20 ((pau L [] 0).2)
theorem yv_TX_readInto2 : Yv y_TX_readInto2 b_TX_readInto2 3 (Option.some FieldType.int) 1 := ⟨g_497, g_59, by decide, by decide +kernel⟩
set_option maxHeartbeats 4000000 in
set_option maxRecDepth 100000 in
theorem c_TX_readInto2 (l0 : Launch) (D : GG) (t : Nat) (L : List Int) (o : Nat) (K : List Int) (hd : t + 2 ≤ o ∨ o + 2 ≤ t) : Ct l0 D y_TX_readInto2 b_TX_readInto2 3 (Option.some FieldType.int) ({ frames := 2, cells := 0, slots := 0, locals := 42 } : Room) [.ref t, .ref o] (fun H => isT D H t L ∧ isL D H o 20 K) (rA o (o + 2)) 0 0 (q_TX_readInto2 D t L o K) := by
  refine Ct.of (L := [(0, .ref t), (1, .ref o)]) (by decide) (Nat.le_of_ble_eq_true rfl) rfl (fun M H ho hr hnm hH hpre => ?_)
  obtain ⟨hT, hK⟩ := hpre
  have h_b := hT.b
  refine x_aload_n ho 1 d_TX_readInto2_0 rfl ?_
  refine x_callV (rest := []) ho d_TX_readInto2_1 yv_LE_clear g_316 g_317 g_315 (c_LE_clear M.2.1 D o 20 K ) rfl rfl ⟨Nat.le_of_ble_eq_true rfl, Nat.le_of_ble_eq_true rfl⟩ ⟨Nat.le_of_ble_eq_true rfl, Nat.le_of_ble_eq_true rfl⟩ rfl rfl (Nat.le_of_ble_eq_true rfl) hK.1 rfl rfl hK (rA_sub (by omega) (by omega)) (fun v_1 H_3 hv_1 f_2 => ?_)
  have k_4 := hT.kept (fun q g1 g2 => f_2.2 q (by have := hT.lt; omega) (rA_no (by omega)))
  obtain ⟨rfl, hL_5⟩ := hv_1
  show X _ _ _ _ _ _ _ _ _ [] _
  refine x_iconst ho d_TX_readInto2_4 ?_
  refine x_istore_n (L' := [(2, zV 0), (0, .ref t), (1, .ref o)]) ho d_TX_readInto2_5 (by decide) rfl ?_
  have loop_6 : ∀ (kk : Nat) (k : Int) (C : List Int) (H_6 : Heap) (gT : isT D H_6 t L) (gK : isL D H_6 o 20 C) (i0 : 0 ≤ k ∧ k ≤ (L.length : Int)) (hA : pau (L.drop k.toNat) C k = pau L [] 0), ((L.length : Int) - k).toNat < kk → X M ({ frames := 2, cells := 0, slots := 0, locals := 42 } : Room) 3 (rA o (o + 2)) 0 0 (Qof M (rA o (o + 2)) (q_TX_readInto2 D t L o K) 0 0) 6 [(2, zV k), (0, .ref t), (1, .ref o)] [] H_6 := by
    intro kk
    induction kk with
    | zero => intro k C H_6 gT gK i0 hA hk; exact absurd hk (Nat.not_lt_zero _)
    | succ kk ih_6 =>
      intro k C H_6 gT gK i0 hA hk_6
      refine x_iload_n ho 0 d_TX_readInto2_6 rfl ?_
      refine x_aload_n ho 1 d_TX_readInto2_7 rfl ?_
      refine x_get 1 ho d_TX_readInto2_8 cl_TX (by decide) g_155 gT.1 rfl ?_
      refine x_icmp_ge (tgt := 34) ho d_TX_readInto2_11 (by decide) (by omega) (by omega) (fun c_11 => ?_) (fun c_11 => ?_)
      ·
        refine x_aload_n ho 1 d_TX_readInto2_34 rfl ?_
        refine x_get 1 ho d_TX_readInto2_35 cl_TX (by decide) g_155 gT.1 rfl ?_
        refine x_if_le (tgt := 45) ho d_TX_readInto2_38 (by decide) (by omega) (fun c_38 => ?_) (fun c_38 => ?_)
        ·
          refine x_aload_n ho 1 d_TX_readInto2_45 rfl ?_
          refine x_get 1 ho d_TX_readInto2_46 cl_TX (by decide) g_155 gT.1 rfl ?_
          refine x_iret ho hr d_TX_readInto2_49 ?_
          rw [show L.drop k.toNat = [] from List.drop_of_length_le (by omega), pau, if_neg (by omega)] at hA
          exact ⟨by rw [← hA]; exact rI (by omega), gT, by rw [← hA]; exact gK⟩
        ·
          refine x_iconst ho d_TX_readInto2_41 ?_
          refine x_goto (tgt := 49) ho d_TX_readInto2_42 (by decide) ?_
          refine x_iret ho hr d_TX_readInto2_49 ?_
          rw [show L.drop k.toNat = [] from List.drop_of_length_le (by omega), pau, if_pos (by omega)] at hA
          exact ⟨by rw [← hA], gT, by rw [← hA]; exact gK⟩
      ·
        refine x_aload_n ho 2 d_TX_readInto2_14 rfl ?_
        refine x_aload_n ho 1 d_TX_readInto2_15 rfl ?_
        refine x_iload_n ho 0 d_TX_readInto2_16 rfl ?_
        refine x_callV (rest := [.ref o]) ho d_TX_readInto2_17 yv_TX_letterAt g_313 g_0 g_312 (c_TX_letterAt M.2.1 D t L k (by omega)) rfl rfl ⟨Nat.le_of_ble_eq_true rfl, Nat.le_of_ble_eq_true rfl⟩ ⟨Nat.le_of_ble_eq_true rfl, Nat.le_of_ble_eq_true rfl⟩ rfl rfl (Nat.le_of_ble_eq_true rfl) gT.1 rfl rfl gT fr_none' (x_rd (fun v_7 hv_7 => ?_))
        obtain ⟨rfl, hr_9⟩ := hv_7
        show X _ _ _ _ _ _ _ _ _ [zV (tlat L k), .ref o] _
        have etl : tlat L k = ltr (gA L k) := tlat_in (by omega) (by omega)
        rw [drop_cons (by omega) (by omega)] at hA
        refine x_callV (rest := []) ho d_TX_readInto2_20 yv_LE_add g_106 g_107 g_326 (c_LE_add M.2.1 D o 20 C (tlat L k) (by omega)) rfl rfl ⟨Nat.le_of_ble_eq_true rfl, Nat.le_of_ble_eq_true rfl⟩ ⟨Nat.le_of_ble_eq_true rfl, Nat.le_of_ble_eq_true rfl⟩ rfl rfl (Nat.le_of_ble_eq_true rfl) gK.1 rfl rfl gK (rA_sub (by omega) (by omega)) (fun v_10 H_12 hv_10 f_11 => ?_)
        have k_13 := gT.kept (fun q g1 g2 => f_11.2 q (by have := gT.lt; omega) (rA_no (by omega)))
        rcases hv_10 with ⟨rfl, hp_14, hL_15⟩ | ⟨rfl, hp_16, hL_17⟩
        ·
          show X _ _ _ _ _ _ _ _ _ [zV 1] _
          refine x_if_ne (tgt := 28) ho d_TX_readInto2_23 (by decide) (by omega) (fun _ => ?_) (fun c => absurd c (by decide))
          refine x_iinc (L' := [(2, zV (k + 1)), (0, .ref t), (1, .ref o)]) ho 0 d_TX_readInto2_28 rfl rfl (by decide) rfl ?_
          refine x_goto (tgt := 6) ho d_TX_readInto2_31 (by decide) ?_
          exact ih_6 (k + 1) (C ++ [tlat L k]) H_12 k_13 hL_15 (by omega) (by rw [← hA, etl, pau, if_pos ⟨by omega, by omega⟩]) (by omega)
        ·
          show X _ _ _ _ _ _ _ _ _ [zV 0] _
          refine x_if_ne (tgt := 28) ho d_TX_readInto2_23 (by decide) (by omega) (fun c => absurd c (by decide)) (fun _ => ?_)
          refine x_iload_n ho 0 d_TX_readInto2_26 rfl ?_
          refine x_iret ho hr d_TX_readInto2_27 ?_
          rw [pau, if_neg (by omega)] at hA
          exact ⟨by rw [← hA], k_13, by rw [← hA]; exact hL_17⟩
  exact loop_6 _ 0 ([]) H_3 k_4 hL_5 (by omega) (by rfl) (Nat.lt_succ_self _)
def q_TX_readInto (D : GG) (t : Nat) (L : List Int) (r : Nat) (p : Int → Nat) (c : Int → List Int) : Option Value → Heap → Prop := fun v0 H => v0 = some (zV ((aut L 0 (-1) c 0).1)) ∧ isT D H t L ∧ isR D H r p ((aut L 0 (-1) c 0).2)
theorem yv_TX_readInto : Yv y_TX_readInto b_TX_readInto 6 (Option.some FieldType.int) 1 := ⟨g_310, g_59, by decide, by decide +kernel⟩
set_option maxHeartbeats 4000000 in
set_option maxRecDepth 100000 in
theorem c_TX_readInto (l0 : Launch) (D : GG) (t : Nat) (L : List Int) (r : Nat) (p : Int → Nat) (c : Int → List Int) (hd : t + 2 ≤ r ∨ r + 12 ≤ t) : Ct l0 D y_TX_readInto b_TX_readInto 6 (Option.some FieldType.int) ({ frames := 2, cells := 0, slots := 0, locals := 42 } : Room) [.ref t, .ref r] (fun H => isT D H t L ∧ isR D H r p c) (rA r (r + 12)) 0 0 (q_TX_readInto D t L r p c) := by
  refine Ct.of (L := [(0, .ref t), (1, .ref r)]) (by decide) (Nat.le_of_ble_eq_true rfl) rfl (fun M H ho hr hnm hH hpre => ?_)
  obtain ⟨hT, hR⟩ := hpre
  have h_b := hT.b
  refine x_iconst ho d_TX_readInto_0 ?_
  refine x_istore_n (L' := [(2, zV 0), (0, .ref t), (1, .ref r)]) ho d_TX_readInto_1 (by decide) rfl ?_
  refine x_aload_n ho 2 d_TX_readInto_2 rfl ?_
  refine x_iconst ho d_TX_readInto_3 ?_
  refine x_callV (rest := []) ho d_TX_readInto_4 yv_RU_imageOf g_294 g_295 g_311 (c_RU_imageOf_g M.2.1 D r p c (-1) (by omega)) rfl rfl ⟨Nat.le_of_ble_eq_true rfl, Nat.le_of_ble_eq_true rfl⟩ ⟨Nat.le_of_ble_eq_true rfl, Nat.le_of_ble_eq_true rfl⟩ rfl rfl (Nat.le_of_ble_eq_true rfl) hR.1 rfl rfl hR fr_none' (x_rd (fun v_1 hv_1 => ?_))
  rcases hv_1 with ⟨rfl, hx_3, hb_4, hI_5⟩ | ⟨rfl, hx_6, hI_7⟩
  ·
    omega
  ·
    show X _ _ _ _ _ _ _ _ _ [.ref (r + 2)] _
    refine x_astore_n (L' := [(3, .ref (r + 2)), (2, zV 0), (0, .ref t), (1, .ref r)]) ho d_TX_readInto_7 (by decide) rfl ?_
    refine x_iconst ho d_TX_readInto_8 ?_
    refine x_istore (L' := [(4, zV 0), (3, .ref (r + 2)), (2, zV 0), (0, .ref t), (1, .ref r)]) ho d_TX_readInto_9 (by decide) rfl ?_
    have loop_11 : ∀ (kk : Nat) (due : Int) (a : Nat) (k : Int) (l : Int) (g : Int → List Int) (H_8 : Heap) (gT : isT D H_8 t L) (gR : isR D H_8 r p g) (i0 : 0 ≤ k ∧ k ≤ (L.length : Int)) (hdu : 0 ≤ due ∧ due ≤ 2) (hal : ¬ due = 0 → 0 ≤ l ∧ l < 4 ∧ a = p l) (hA : aut (L.drop k.toNat) due l g k = aut L 0 (-1) c 0), ((L.length : Int) - k).toNat < kk → X M ({ frames := 2, cells := 0, slots := 0, locals := 42 } : Room) 6 (rA r (r + 12)) 0 0 (Qof M (rA r (r + 12)) (q_TX_readInto D t L r p c) 0 0) 11 [(4, zV k), (3, .ref a), (2, zV due), (0, .ref t), (1, .ref r)] [] H_8 := by
      intro kk
      induction kk with
      | zero => intro due a k l g H_8 gT gR i0 hdu hal hA hk; exact absurd hk (Nat.not_lt_zero _)
      | succ kk ih_11 =>
        intro due a k l g H_8 gT gR i0 hdu hal hA hk_11
        refine x_iload ho 0 d_TX_readInto_11 rfl ?_
        refine x_aload_n ho 3 d_TX_readInto_13 rfl ?_
        refine x_get 1 ho d_TX_readInto_14 cl_TX (by decide) g_155 gT.1 rfl ?_
        refine x_icmp_ge (tgt := 126) ho d_TX_readInto_17 (by decide) (by omega) (by omega) (fun c_17 => ?_) (fun c_17 => ?_)
        ·
          refine x_iload_n ho 2 d_TX_readInto_126 rfl ?_
          refine x_iconst ho d_TX_readInto_127 ?_
          refine x_icmp_ne (tgt := 142) ho d_TX_readInto_128 (by decide) (by omega) (by omega) (fun c_128 => ?_) (fun c_128 => ?_)
          ·
            refine x_aload_n ho 3 d_TX_readInto_142 rfl ?_
            refine x_get 1 ho d_TX_readInto_143 cl_TX (by decide) g_155 gT.1 rfl ?_
            refine x_iret ho hr d_TX_readInto_146 ?_
            rw [show L.drop k.toNat = [] from List.drop_of_length_le (by omega)] at hA
            have e : (if due = 2 ∧ 0 < ((g l).length : Int) then (-1 : Int) else k) = (L.length : Int) := by rw [if_neg (by omega)]; omega
            exact ⟨by rw [← hA]; show _ = some (zV (if due = 2 ∧ 0 < ((g l).length : Int) then (-1 : Int) else k)); rw [e], gT, by rw [← hA]; exact gR⟩
          ·
            obtain ⟨hl0, hl1, hl2⟩ := hal (by omega)
            have hI := gR.im hl0 hl1
            rw [← hl2] at hI
            have hIb := hI.b
            have hbd := gR.bd hl0 hl1
            rw [← hl2] at hbd
            refine x_aload_n ho 1 d_TX_readInto_131 rfl ?_
            refine x_callV (rest := []) ho d_TX_readInto_132 yv_LE_length g_323 g_324 g_322 (c_LE_length M.2.1 D a 8 (g l) ) rfl rfl ⟨Nat.le_of_ble_eq_true rfl, Nat.le_of_ble_eq_true rfl⟩ ⟨Nat.le_of_ble_eq_true rfl, Nat.le_of_ble_eq_true rfl⟩ rfl rfl (Nat.le_of_ble_eq_true rfl) hI.1 rfl rfl hI fr_none' (x_rd (fun v_9 hv_9 => ?_))
            obtain rfl := hv_9
            show X _ _ _ _ _ _ _ _ _ [zV (((g l).length : Int))] _
            refine x_if_le (tgt := 142) ho d_TX_readInto_135 (by decide) (by omega) (fun c_135 => ?_) (fun c_135 => ?_)
            ·
              refine x_aload_n ho 3 d_TX_readInto_142 rfl ?_
              refine x_get 1 ho d_TX_readInto_143 cl_TX (by decide) g_155 gT.1 rfl ?_
              refine x_iret ho hr d_TX_readInto_146 ?_
              rw [show L.drop k.toNat = [] from List.drop_of_length_le (by omega)] at hA
              have e : (if due = 2 ∧ 0 < ((g l).length : Int) then (-1 : Int) else k) = (L.length : Int) := by rw [if_neg (by omega)]; omega
              exact ⟨by rw [← hA]; show _ = some (zV (if due = 2 ∧ 0 < ((g l).length : Int) then (-1 : Int) else k)); rw [e], gT, by rw [← hA]; exact gR⟩
            ·
              refine x_iconst ho d_TX_readInto_138 ?_
              refine x_goto (tgt := 146) ho d_TX_readInto_139 (by decide) ?_
              refine x_iret ho hr d_TX_readInto_146 ?_
              rw [show L.drop k.toNat = [] from List.drop_of_length_le (by omega)] at hA
              have e : (if due = 2 ∧ 0 < ((g l).length : Int) then (-1 : Int) else k) = -1 := by rw [if_pos ⟨by omega, by omega⟩]
              exact ⟨by rw [← hA]; show _ = some (zV (if due = 2 ∧ 0 < ((g l).length : Int) then (-1 : Int) else k)); rw [e], gT, by rw [← hA]; exact gR⟩
        ·
          refine x_aload_n ho 3 d_TX_readInto_20 rfl ?_
          refine x_iload ho 0 d_TX_readInto_21 rfl ?_
          refine x_callV (rest := []) ho d_TX_readInto_23 yv_TX_letterAt g_313 g_0 g_312 (c_TX_letterAt M.2.1 D t L k (by omega)) rfl rfl ⟨Nat.le_of_ble_eq_true rfl, Nat.le_of_ble_eq_true rfl⟩ ⟨Nat.le_of_ble_eq_true rfl, Nat.le_of_ble_eq_true rfl⟩ rfl rfl (Nat.le_of_ble_eq_true rfl) gT.1 rfl rfl gT fr_none' (x_rd (fun v_11 hv_11 => ?_))
          obtain ⟨rfl, hr_13⟩ := hv_11
          show X _ _ _ _ _ _ _ _ _ [zV (tlat L k)] _
          have etl : tlat L k = ltr (gA L k) := tlat_in (by omega) (by omega)
          rw [drop_cons (by omega) (by omega)] at hA
          refine x_istore (L' := [(5, zV (tlat L k)), (4, zV k), (3, .ref a), (2, zV due), (0, .ref t), (1, .ref r)]) ho d_TX_readInto_26 (by decide) rfl ?_
          refine x_iload_n ho 3 d_TX_readInto_28 rfl ?_
          refine x_if_ne (tgt := 54) ho d_TX_readInto_29 (by decide) (by omega) (fun c_29 => ?_) (fun c_29 => ?_)
          ·
            refine x_iload_n ho 3 d_TX_readInto_54 rfl ?_
            refine x_iconst ho d_TX_readInto_55 ?_
            refine x_icmp_ne (tgt := 75) ho d_TX_readInto_56 (by decide) (by omega) (by omega) (fun c_56 => ?_) (fun c_56 => ?_)
            ·
              refine x_iload_n ho 3 d_TX_readInto_75 rfl ?_
              refine x_iconst ho d_TX_readInto_76 ?_
              refine x_icmp_ne (tgt := 103) ho d_TX_readInto_77 (by decide) (by omega) (by omega) (fun c_77 => ?_) (fun c_77 => ?_)
              ·
                refine x_iload_n ho 3 d_TX_readInto_103 rfl ?_
                refine x_iconst ho d_TX_readInto_104 ?_
                refine x_icmp_ne (tgt := 117) ho d_TX_readInto_105 (by decide) (by omega) (by omega) (fun c_105 => ?_) (fun c_105 => ?_)
                ·
                  omega
                ·
                  omega
              ·
                obtain ⟨hl0, hl1, hl2⟩ := hal (by omega)
                have hI := gR.im hl0 hl1
                rw [← hl2] at hI
                have hIb := hI.b
                have hbd := gR.bd hl0 hl1
                rw [← hl2] at hbd
                refine x_aload_n ho 2 d_TX_readInto_80 rfl ?_
                refine x_callV (rest := []) ho d_TX_readInto_81 yv_LE_length g_323 g_324 g_322 (c_LE_length M.2.1 D a 8 (g l) ) rfl rfl ⟨Nat.le_of_ble_eq_true rfl, Nat.le_of_ble_eq_true rfl⟩ ⟨Nat.le_of_ble_eq_true rfl, Nat.le_of_ble_eq_true rfl⟩ rfl rfl (Nat.le_of_ble_eq_true rfl) hI.1 rfl rfl hI fr_none' (x_rd (fun v_14 hv_14 => ?_))
                obtain rfl := hv_14
                show X _ _ _ _ _ _ _ _ _ [zV (((g l).length : Int))] _
                refine x_if_le (tgt := 103) ho d_TX_readInto_84 (by decide) (by omega) (fun c_84 => ?_) (fun c_84 => ?_)
                ·
                  refine x_iload_n ho 3 d_TX_readInto_103 rfl ?_
                  refine x_iconst ho d_TX_readInto_104 ?_
                  refine x_icmp_ne (tgt := 117) ho d_TX_readInto_105 (by decide) (by omega) (by omega) (fun c_105 => ?_) (fun c_105 => ?_)
                  ·
                    omega
                  ·
                    refine x_aload_n ho 2 d_TX_readInto_108 rfl ?_
                    refine x_iload ho 0 d_TX_readInto_109 rfl ?_
                    refine x_callV (rest := []) ho d_TX_readInto_111 yv_LE_add g_106 g_107 g_326 (c_LE_add M.2.1 D a 8 (g l) (tlat L k) (by omega)) rfl rfl ⟨Nat.le_of_ble_eq_true rfl, Nat.le_of_ble_eq_true rfl⟩ ⟨Nat.le_of_ble_eq_true rfl, Nat.le_of_ble_eq_true rfl⟩ rfl rfl (Nat.le_of_ble_eq_true rfl) hI.1 rfl rfl hI (rA_sub (by omega) (by omega)) (fun v_16 H_18 hv_16 f_17 => ?_)
                    have k_19 := gT.kept (fun q g1 g2 => f_17.2 q (by have := gT.lt; omega) (rA_no (by omega)))
                    rcases hv_16 with ⟨rfl, hp_20, hL_21⟩ | ⟨rfl, hp_22, hL_23⟩
                    ·
                      have r_24 : isR D H_18 r p (zU g l ((g l) ++ [(tlat L k)])) := isR_set gR hl0 hl1 (hl2 ▸ hL_21) (hl2 ▸ f_17)
                      show X _ _ _ _ _ _ _ _ _ [zV 1] _
                      refine x_if_ne (tgt := 120) ho d_TX_readInto_114 (by decide) (by omega) (fun _ => ?_) (fun c => absurd c (by decide))
                      refine x_iinc (L' := [(4, zV (k + 1)), (5, zV (tlat L k)), (3, .ref a), (2, zV due), (0, .ref t), (1, .ref r)]) ho 1 d_TX_readInto_120 rfl rfl (by decide) rfl ?_
                      refine x_goto (tgt := 11) ho d_TX_readInto_123 (by decide) ?_
                      refine x_sub (L' := [(4, zV (k + 1)), (3, .ref a), (2, zV due), (0, .ref t), (1, .ref r)]) [0, 2, 3, 4, 5] rfl ?_
                      exact ih_11 due a (k + 1) l (zU g l (g l ++ [tlat L k])) H_18 k_19 r_24 (by omega) (by omega) (by intro _; exact ⟨hl0, hl1, hl2⟩) (by
                          have e : due = 2 := by omega
                          subst e
                          rw [← hA, etl, aut_d (by omega) (by omega)]) (by omega)
                    ·
                      have r_25 : isR D H_18 r p (zU g l (g l)) := isR_set gR hl0 hl1 (hl2 ▸ hL_23) (hl2 ▸ f_17)
                      show X _ _ _ _ _ _ _ _ _ [zV 0] _
                      refine x_if_ne (tgt := 120) ho d_TX_readInto_114 (by decide) (by omega) (fun c => absurd c (by decide)) (fun _ => ?_)
                      refine x_iload ho 1 d_TX_readInto_117 rfl ?_
                      refine x_iret ho hr d_TX_readInto_119 ?_
                      have e := aut_e (x := gA L k) (l := l) (k := k) (due := due) (xs := L.drop (k + 1).toNat) (c := g) (by intro h; omega) (by intro h; omega) (by intro h; first | omega | exact ⟨by omega, by omega⟩)
                      rw [hA] at e
                      exact ⟨by rw [e], k_19, by rw [e]; exact (r_25).c (fun i _ _ => by first | rfl | (by_cases hi : i = l; subst hi; exact zU_s _ _ _; exact zU_n _ _ hi))⟩
                ·
                  refine x_aload_n ho 4 d_TX_readInto_87 rfl ?_
                  refine x_iload ho 1 d_TX_readInto_88 rfl ?_
                  refine x_bipush (z := 59) ho d_TX_readInto_90 (by decide) ?_
                  refine x_callV (rest := []) ho d_TX_readInto_92 yv_TX_hasAt g_320 g_1 g_319 (c_TX_hasAt M.2.1 D t L k 59 (by omega) (by omega)) rfl rfl ⟨Nat.le_of_ble_eq_true rfl, Nat.le_of_ble_eq_true rfl⟩ ⟨Nat.le_of_ble_eq_true rfl, Nat.le_of_ble_eq_true rfl⟩ rfl rfl (Nat.le_of_ble_eq_true rfl) gT.1 rfl rfl gT fr_none' (x_rd (fun v_26 hv_26 => ?_))
                  obtain rfl := hv_26
                  show X _ _ _ _ _ _ _ _ _ [zV (bI (0 ≤ k ∧ k < (L.length : Int) ∧ gA L k = 59))] _
                  refine x_if_eqB (tgt := 103) ho d_TX_readInto_95 (by decide) (fun c_95 => ?_) (fun c_95 => ?_)
                  ·
                    refine x_iload_n ho 3 d_TX_readInto_103 rfl ?_
                    refine x_iconst ho d_TX_readInto_104 ?_
                    refine x_icmp_ne (tgt := 117) ho d_TX_readInto_105 (by decide) (by omega) (by omega) (fun c_105 => ?_) (fun c_105 => ?_)
                    ·
                      omega
                    ·
                      refine x_aload_n ho 2 d_TX_readInto_108 rfl ?_
                      refine x_iload ho 0 d_TX_readInto_109 rfl ?_
                      refine x_callV (rest := []) ho d_TX_readInto_111 yv_LE_add g_106 g_107 g_326 (c_LE_add M.2.1 D a 8 (g l) (tlat L k) (by omega)) rfl rfl ⟨Nat.le_of_ble_eq_true rfl, Nat.le_of_ble_eq_true rfl⟩ ⟨Nat.le_of_ble_eq_true rfl, Nat.le_of_ble_eq_true rfl⟩ rfl rfl (Nat.le_of_ble_eq_true rfl) hI.1 rfl rfl hI (rA_sub (by omega) (by omega)) (fun v_28 H_30 hv_28 f_29 => ?_)
                      have k_31 := gT.kept (fun q g1 g2 => f_29.2 q (by have := gT.lt; omega) (rA_no (by omega)))
                      rcases hv_28 with ⟨rfl, hp_32, hL_33⟩ | ⟨rfl, hp_34, hL_35⟩
                      ·
                        have r_36 : isR D H_30 r p (zU g l ((g l) ++ [(tlat L k)])) := isR_set gR hl0 hl1 (hl2 ▸ hL_33) (hl2 ▸ f_29)
                        show X _ _ _ _ _ _ _ _ _ [zV 1] _
                        refine x_if_ne (tgt := 120) ho d_TX_readInto_114 (by decide) (by omega) (fun _ => ?_) (fun c => absurd c (by decide))
                        refine x_iinc (L' := [(4, zV (k + 1)), (5, zV (tlat L k)), (3, .ref a), (2, zV due), (0, .ref t), (1, .ref r)]) ho 1 d_TX_readInto_120 rfl rfl (by decide) rfl ?_
                        refine x_goto (tgt := 11) ho d_TX_readInto_123 (by decide) ?_
                        refine x_sub (L' := [(4, zV (k + 1)), (3, .ref a), (2, zV due), (0, .ref t), (1, .ref r)]) [0, 2, 3, 4, 5] rfl ?_
                        exact ih_11 due a (k + 1) l (zU g l (g l ++ [tlat L k])) H_30 k_31 r_36 (by omega) (by omega) (by intro _; exact ⟨hl0, hl1, hl2⟩) (by
                            have e : due = 2 := by omega
                            subst e
                            rw [← hA, etl, aut_d (by omega) (by omega)]) (by omega)
                      ·
                        have r_37 : isR D H_30 r p (zU g l (g l)) := isR_set gR hl0 hl1 (hl2 ▸ hL_35) (hl2 ▸ f_29)
                        show X _ _ _ _ _ _ _ _ _ [zV 0] _
                        refine x_if_ne (tgt := 120) ho d_TX_readInto_114 (by decide) (by omega) (fun c => absurd c (by decide)) (fun _ => ?_)
                        refine x_iload ho 1 d_TX_readInto_117 rfl ?_
                        refine x_iret ho hr d_TX_readInto_119 ?_
                        have e := aut_e (x := gA L k) (l := l) (k := k) (due := due) (xs := L.drop (k + 1).toNat) (c := g) (by intro h; omega) (by intro h; omega) (by intro h; first | omega | exact ⟨by omega, by omega⟩)
                        rw [hA] at e
                        exact ⟨by rw [e], k_31, by rw [e]; exact (r_37).c (fun i _ _ => by first | rfl | (by_cases hi : i = l; subst hi; exact zU_s _ _ _; exact zU_n _ _ hi))⟩
                  ·
                    refine x_iconst ho d_TX_readInto_98 ?_
                    refine x_istore_n (L' := [(2, zV 0), (5, zV (tlat L k)), (4, zV k), (3, .ref a), (0, .ref t), (1, .ref r)]) ho d_TX_readInto_99 (by decide) rfl ?_
                    refine x_goto (tgt := 120) ho d_TX_readInto_100 (by decide) ?_
                    refine x_iinc (L' := [(4, zV (k + 1)), (2, zV 0), (5, zV (tlat L k)), (3, .ref a), (0, .ref t), (1, .ref r)]) ho 2 d_TX_readInto_120 rfl rfl (by decide) rfl ?_
                    refine x_goto (tgt := 11) ho d_TX_readInto_123 (by decide) ?_
                    refine x_sub (L' := [(4, zV (k + 1)), (3, .ref a), (2, zV 0), (0, .ref t), (1, .ref r)]) [0, 3, 1, 4, 5] rfl ?_
                    exact ih_11 0 a (k + 1) l g H_8 gT gR (by omega) (by omega) (by intro h; exact absurd rfl h) (by
                        have e : due = 2 := by omega
                        subst e
                        rw [← hA, aut_c c_95.2.2 (by omega)]) (by omega)
            ·
              refine x_aload_n ho 4 d_TX_readInto_59 rfl ?_
              refine x_iload ho 1 d_TX_readInto_60 rfl ?_
              refine x_bipush (z := 61) ho d_TX_readInto_62 (by decide) ?_
              refine x_callV (rest := []) ho d_TX_readInto_64 yv_TX_hasAt g_320 g_1 g_319 (c_TX_hasAt M.2.1 D t L k 61 (by omega) (by omega)) rfl rfl ⟨Nat.le_of_ble_eq_true rfl, Nat.le_of_ble_eq_true rfl⟩ ⟨Nat.le_of_ble_eq_true rfl, Nat.le_of_ble_eq_true rfl⟩ rfl rfl (Nat.le_of_ble_eq_true rfl) gT.1 rfl rfl gT fr_none' (x_rd (fun v_38 hv_38 => ?_))
              obtain rfl := hv_38
              show X _ _ _ _ _ _ _ _ _ [zV (bI (0 ≤ k ∧ k < (L.length : Int) ∧ gA L k = 61))] _
              refine x_if_eqB (tgt := 75) ho d_TX_readInto_67 (by decide) (fun c_67 => ?_) (fun c_67 => ?_)
              ·
                refine x_iload_n ho 3 d_TX_readInto_75 rfl ?_
                refine x_iconst ho d_TX_readInto_76 ?_
                refine x_icmp_ne (tgt := 103) ho d_TX_readInto_77 (by decide) (by omega) (by omega) (fun c_77 => ?_) (fun c_77 => ?_)
                ·
                  refine x_iload_n ho 3 d_TX_readInto_103 rfl ?_
                  refine x_iconst ho d_TX_readInto_104 ?_
                  refine x_icmp_ne (tgt := 117) ho d_TX_readInto_105 (by decide) (by omega) (by omega) (fun c_105 => ?_) (fun c_105 => ?_)
                  ·
                    refine x_iload ho 1 d_TX_readInto_117 rfl ?_
                    refine x_iret ho hr d_TX_readInto_119 ?_
                    have e := aut_e (x := gA L k) (l := l) (k := k) (due := due) (xs := L.drop (k + 1).toNat) (c := g) (by intro h; omega) (by intro h; omega) (by intro h; first | omega | exact ⟨by omega, by omega⟩)
                    rw [hA] at e
                    exact ⟨by rw [e], gT, by rw [e]; exact (gR).c (fun i _ _ => by first | rfl | (by_cases hi : i = l; subst hi; exact zU_s _ _ _; exact zU_n _ _ hi))⟩
                  ·
                    omega
                ·
                  omega
              ·
                refine x_iconst ho d_TX_readInto_70 ?_
                refine x_istore_n (L' := [(2, zV 2), (5, zV (tlat L k)), (4, zV k), (3, .ref a), (0, .ref t), (1, .ref r)]) ho d_TX_readInto_71 (by decide) rfl ?_
                refine x_goto (tgt := 120) ho d_TX_readInto_72 (by decide) ?_
                refine x_iinc (L' := [(4, zV (k + 1)), (2, zV 2), (5, zV (tlat L k)), (3, .ref a), (0, .ref t), (1, .ref r)]) ho 2 d_TX_readInto_120 rfl rfl (by decide) rfl ?_
                refine x_goto (tgt := 11) ho d_TX_readInto_123 (by decide) ?_
                refine x_sub (L' := [(4, zV (k + 1)), (3, .ref a), (2, zV 2), (0, .ref t), (1, .ref r)]) [0, 3, 1, 4, 5] rfl ?_
                exact ih_11 2 a (k + 1) l g H_8 gT gR (by omega) (by omega) (by intro _; exact hal (by omega)) (by
                    have e : due = 1 := by omega
                    subst e
                    rw [← hA, aut_b c_67.2.2]) (by omega)
          ·
            refine x_iload ho 0 d_TX_readInto_32 rfl ?_
            refine x_iconst ho d_TX_readInto_34 ?_
            refine x_icmp_eq (tgt := 54) ho d_TX_readInto_35 (by decide) (by omega) (by omega) (fun c_35 => ?_) (fun c_35 => ?_)
            ·
              refine x_iload_n ho 3 d_TX_readInto_54 rfl ?_
              refine x_iconst ho d_TX_readInto_55 ?_
              refine x_icmp_ne (tgt := 75) ho d_TX_readInto_56 (by decide) (by omega) (by omega) (fun c_56 => ?_) (fun c_56 => ?_)
              ·
                refine x_iload_n ho 3 d_TX_readInto_75 rfl ?_
                refine x_iconst ho d_TX_readInto_76 ?_
                refine x_icmp_ne (tgt := 103) ho d_TX_readInto_77 (by decide) (by omega) (by omega) (fun c_77 => ?_) (fun c_77 => ?_)
                ·
                  refine x_iload_n ho 3 d_TX_readInto_103 rfl ?_
                  refine x_iconst ho d_TX_readInto_104 ?_
                  refine x_icmp_ne (tgt := 117) ho d_TX_readInto_105 (by decide) (by omega) (by omega) (fun c_105 => ?_) (fun c_105 => ?_)
                  ·
                    refine x_iload ho 1 d_TX_readInto_117 rfl ?_
                    refine x_iret ho hr d_TX_readInto_119 ?_
                    have e := aut_e (x := gA L k) (l := l) (k := k) (due := due) (xs := L.drop (k + 1).toNat) (c := g) (by intro h; omega) (by intro h; omega) (by intro h; first | omega | exact ⟨by omega, by omega⟩)
                    rw [hA] at e
                    exact ⟨by rw [e], gT, by rw [e]; exact (gR).c (fun i _ _ => by first | rfl | (by_cases hi : i = l; subst hi; exact zU_s _ _ _; exact zU_n _ _ hi))⟩
                  ·
                    omega
                ·
                  omega
              ·
                omega
            ·
              refine x_aload_n ho 5 d_TX_readInto_38 rfl ?_
              refine x_iload ho 0 d_TX_readInto_39 rfl ?_
              refine x_callV (rest := []) ho d_TX_readInto_41 yv_RU_imageOf g_294 g_295 g_311 (c_RU_imageOf M.2.1 D r p g (tlat L k) (by omega)) rfl rfl ⟨Nat.le_of_ble_eq_true rfl, Nat.le_of_ble_eq_true rfl⟩ ⟨Nat.le_of_ble_eq_true rfl, Nat.le_of_ble_eq_true rfl⟩ rfl rfl (Nat.le_of_ble_eq_true rfl) gR.1 rfl rfl gR fr_none' (x_rd (fun v_40 hv_40 => ?_))
              obtain ⟨rfl, hb_42, hI_43⟩ := hv_40
              show X _ _ _ _ _ _ _ _ _ [.ref (p (tlat L k))] _
              refine x_astore_n (L' := [(3, .ref (p (tlat L k))), (5, zV (tlat L k)), (4, zV k), (2, zV due), (0, .ref t), (1, .ref r)]) ho d_TX_readInto_44 (by decide) rfl ?_
              refine x_aload_n ho 0 d_TX_readInto_45 rfl ?_
              refine x_callV (rest := []) ho d_TX_readInto_46 yv_LE_clear g_316 g_317 g_315 (c_LE_clear M.2.1 D (p (tlat L k)) 8 (g (tlat L k)) ) rfl rfl ⟨Nat.le_of_ble_eq_true rfl, Nat.le_of_ble_eq_true rfl⟩ ⟨Nat.le_of_ble_eq_true rfl, Nat.le_of_ble_eq_true rfl⟩ rfl rfl (Nat.le_of_ble_eq_true rfl) hI_43.1 rfl rfl hI_43 (rA_sub (by omega) (by omega)) (fun v_44 H_46 hv_44 f_45 => ?_)
              have k_47 := gT.kept (fun q g1 g2 => f_45.2 q (by have := gT.lt; omega) (rA_no (by omega)))
              obtain ⟨rfl, hL_48⟩ := hv_44
              have r_49 : isR D H_46 r p (zU g (tlat L k) []) := isR_set gR (by omega) (by omega) hL_48 f_45
              show X _ _ _ _ _ _ _ _ _ [] _
              refine x_iconst ho d_TX_readInto_49 ?_
              refine x_istore_n (L' := [(2, zV 1), (3, .ref (p (tlat L k))), (5, zV (tlat L k)), (4, zV k), (0, .ref t), (1, .ref r)]) ho d_TX_readInto_50 (by decide) rfl ?_
              refine x_goto (tgt := 120) ho d_TX_readInto_51 (by decide) ?_
              refine x_iinc (L' := [(4, zV (k + 1)), (2, zV 1), (3, .ref (p (tlat L k))), (5, zV (tlat L k)), (0, .ref t), (1, .ref r)]) ho 3 d_TX_readInto_120 rfl rfl (by decide) rfl ?_
              refine x_goto (tgt := 11) ho d_TX_readInto_123 (by decide) ?_
              refine x_sub (L' := [(4, zV (k + 1)), (3, .ref (p (tlat L k))), (2, zV 1), (0, .ref t), (1, .ref r)]) [0, 2, 1, 4, 5] rfl ?_
              exact ih_11 1 (p (tlat L k)) (k + 1) (tlat L k) (zU g (tlat L k) []) H_46 k_47 r_49 (by omega) (by omega) (by intro _; exact ⟨by omega, by omega, rfl⟩) (by
                  have e : due = 0 := by omega
                  subst e
                  rw [← hA, etl, aut_a (by omega)]) (by omega)
    exact loop_11 _ 0 (r + 2) 0 (-1) c H hT hR (by omega) (by omega) (by intro h; exact absurd rfl h) (by rfl) (Nat.lt_succ_self _)
