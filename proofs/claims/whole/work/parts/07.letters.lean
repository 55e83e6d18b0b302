def q_MW_isLetter (D : GG) (x : Int) : Option Value → Heap → Prop := fun v0 H => (v0 = some (zV (bI (0 ≤ x ∧ x < 4))))
theorem yv_MW_isLetter : Yv y_MW_isLetter b_MW_isLetter 1 (Option.some FieldType.boolean) 1 := ⟨g_110, g_53, by decide, by decide +kernel⟩
set_option maxHeartbeats 4000000 in
set_option maxRecDepth 100000 in
theorem c_MW_isLetter (l0 : Launch) (D : GG) (x : Int) (hx : -2147483648 ≤ x ∧ x ≤ 2147483647) : Ct l0 D y_MW_isLetter b_MW_isLetter 1 (Option.some FieldType.boolean) ({ frames := 0, cells := 0, slots := 0, locals := 0 } : Room) [zV x] (fun H => True) nA 0 0 (q_MW_isLetter D x) := by
  refine Ct.of (L := [(0, zV x)]) (by decide) (Nat.le_of_ble_eq_true rfl) rfl (fun M H ho hr hnm hH hpre => ?_)
  refine x_iload_n ho 0 d_MW_isLetter_0 rfl ?_
  refine x_if_lt (tgt := 13) ho d_MW_isLetter_1 (by decide) (by omega) (fun c_1 => ?_) (fun c_1 => ?_)
  ·
    refine x_iconst ho d_MW_isLetter_13 ?_
    refine x_zret ho hr (Or.inl rfl) d_MW_isLetter_14 ?_
    exact rF (by omega)
  ·
    refine x_iload_n ho 0 d_MW_isLetter_4 rfl ?_
    refine x_iconst ho d_MW_isLetter_5 ?_
    refine x_icmp_ge (tgt := 13) ho d_MW_isLetter_6 (by decide) (by omega) (by omega) (fun c_6 => ?_) (fun c_6 => ?_)
    ·
      refine x_iconst ho d_MW_isLetter_13 ?_
      refine x_zret ho hr (Or.inl rfl) d_MW_isLetter_14 ?_
      exact rF (by omega)
    ·
      refine x_iconst ho d_MW_isLetter_9 ?_
      refine x_goto (tgt := 14) ho d_MW_isLetter_10 (by decide) ?_
      refine x_zret ho hr (Or.inr rfl) d_MW_isLetter_14 ?_
      exact rT (by omega)
def q_LE_length (D : GG) (o : Nat) (n : Nat) (L : List Int) : Option Value → Heap → Prop := fun v0 H => v0 = some (zV ((L.length : Int)))
theorem yv_LE_length : Yv y_LE_length b_LE_length 1 (Option.some FieldType.int) 0 := ⟨g_325, g_56, by decide, by decide +kernel⟩
set_option maxHeartbeats 4000000 in
set_option maxRecDepth 100000 in
theorem c_LE_length (l0 : Launch) (D : GG) (o : Nat) (n : Nat) (L : List Int)  : Ct l0 D y_LE_length b_LE_length 1 (Option.some FieldType.int) ({ frames := 0, cells := 0, slots := 0, locals := 0 } : Room) [.ref o] (fun H => isL D H o n L) nA 0 0 (q_LE_length D o n L) := by
  refine Ct.of (L := [(0, .ref o)]) (by decide) (Nat.le_of_ble_eq_true rfl) rfl (fun M H ho hr hnm hH hpre => ?_)
  have hL := hpre
  refine x_aload_n ho 0 d_LE_length_0 rfl ?_
  refine x_get 1 ho d_LE_length_1 cl_LE (by decide) g_98 hL.1 rfl ?_
  refine x_iret ho hr d_LE_length_4 ?_
  exact rfl
def q_LE_letterAt (D : GG) (o : Nat) (n : Nat) (L : List Int) (z : Int) : Option Value → Heap → Prop := fun v0 H => v0 = some (zV (lat L z)) ∧ (-1 ≤ lat L z ∧ lat L z < 4)
theorem yv_LE_letterAt : Yv y_LE_letterAt b_LE_letterAt 2 (Option.some FieldType.int) 1 := ⟨g_345, g_56, by decide, by decide +kernel⟩
set_option maxHeartbeats 4000000 in
set_option maxRecDepth 100000 in
theorem c_LE_letterAt (l0 : Launch) (D : GG) (o : Nat) (n : Nat) (L : List Int) (z : Int) (hz : -2147483648 ≤ z ∧ z ≤ 2147483647) : Ct l0 D y_LE_letterAt b_LE_letterAt 2 (Option.some FieldType.int) ({ frames := 0, cells := 0, slots := 0, locals := 0 } : Room) [.ref o, zV z] (fun H => isL D H o n L) nA 0 0 (q_LE_letterAt D o n L z) := by
  refine Ct.of (L := [(0, .ref o), (1, zV z)]) (by decide) (Nat.le_of_ble_eq_true rfl) rfl (fun M H ho hr hnm hH hpre => ?_)
  have hL := hpre
  obtain ⟨h_o, ⟨f, h_a, h_f⟩, h_n, h_3, h_w⟩ := id hL
  refine x_iload_n ho 1 d_LE_letterAt_0 rfl ?_
  refine x_if_lt (tgt := 21) ho d_LE_letterAt_1 (by decide) (by omega) (fun c_1 => ?_) (fun c_1 => ?_)
  ·
    refine x_iconst ho d_LE_letterAt_21 ?_
    refine x_iret ho hr d_LE_letterAt_22 ?_
    exact ⟨rI (by exact (lat_out (by omega)).symm), (by exact lat_r h_w z)⟩
  ·
    refine x_iload_n ho 1 d_LE_letterAt_4 rfl ?_
    refine x_aload_n ho 0 d_LE_letterAt_5 rfl ?_
    refine x_get 1 ho d_LE_letterAt_6 cl_LE (by decide) g_98 h_o rfl ?_
    refine x_icmp_ge (tgt := 21) ho d_LE_letterAt_9 (by decide) (by omega) (by omega) (fun c_9 => ?_) (fun c_9 => ?_)
    ·
      refine x_iconst ho d_LE_letterAt_21 ?_
      refine x_iret ho hr d_LE_letterAt_22 ?_
      exact ⟨rI (by exact (lat_out (by omega)).symm), (by exact lat_r h_w z)⟩
    ·
      refine x_aload_n ho 0 d_LE_letterAt_12 rfl ?_
      refine x_get 0 ho d_LE_letterAt_13 cl_LE (by decide) g_97 h_o rfl ?_
      refine x_iload_n ho 1 d_LE_letterAt_16 rfl ?_
      refine x_iald ho d_LE_letterAt_17 h_a (by omega) (by omega) (by omega) ?_
      refine x_eqI (b := gA L z) (by exact h_f _ (by omega) (by omega)) ?_
      refine x_goto (tgt := 22) ho d_LE_letterAt_18 (by decide) ?_
      refine x_iret ho hr d_LE_letterAt_22 ?_
      exact ⟨rI (by exact (lat_in (by omega) (by omega)).symm), (by exact lat_r h_w z)⟩
def q_LE_clear (D : GG) (o : Nat) (n : Nat) (L : List Int) : Option Value → Heap → Prop := fun v0 H => v0 = none ∧ isL D H o n ([])
theorem yv_LE_clear : Yv y_LE_clear b_LE_clear 1 (Option.none : Option FieldType) 0 := ⟨g_318, g_56, by decide, by decide +kernel⟩
set_option maxHeartbeats 4000000 in
set_option maxRecDepth 100000 in
theorem c_LE_clear (l0 : Launch) (D : GG) (o : Nat) (n : Nat) (L : List Int)  : Ct l0 D y_LE_clear b_LE_clear 1 (Option.none : Option FieldType) ({ frames := 0, cells := 0, slots := 0, locals := 0 } : Room) [.ref o] (fun H => isL D H o n L) (rA o (o + 2)) 0 0 (q_LE_clear D o n L) := by
  refine Ct.of (L := [(0, .ref o)]) (by decide) (Nat.le_of_ble_eq_true rfl) rfl (fun M H ho hr hnm hH hpre => ?_)
  have hL := hpre
  obtain ⟨h_o, ⟨f, h_a, h_f⟩, h_n, h_3, h_w⟩ := id hL
  refine x_aload_n ho 0 d_LE_clear_0 rfl ?_
  refine x_iconst ho d_LE_clear_1 ?_
  refine x_put 1 ho d_LE_clear_2 cl_LE (by decide) g_98 h_o rfl rfl rfl (Nat.le_of_ble_eq_true rfl) (rA_in (by omega) (by omega)) (fun H_1 p_2 z_3 q_4 => ?_)
  have k_5 := h_a.kept (q_4 _ (by omega))
  refine x_vret ho hr d_LE_clear_5 ?_
  exact ⟨rfl, isL_mk p_2 k_5 rfl (fun j h0 h1 => by simp at h1; omega) (Nat.zero_le _) h_3 wf_nil⟩
def q_LE_add (D : GG) (o : Nat) (n : Nat) (L : List Int) (x : Int) : Option Value → Heap → Prop := fun v0 H => (v0 = some (zV 1) ∧ (0 ≤ x ∧ x < 4 ∧ (L.length : Int) < n) ∧ isL D H o n (L ++ [x])) ∨ (v0 = some (zV 0) ∧ (¬ (0 ≤ x ∧ x < 4 ∧ (L.length : Int) < n)) ∧ isL D H o n L)
theorem yv_LE_add : Yv y_LE_add b_LE_add 2 (Option.some FieldType.boolean) 1 := ⟨g_108, g_56, by decide, by decide +kernel⟩
set_option maxHeartbeats 4000000 in
set_option maxRecDepth 100000 in
theorem c_LE_add (l0 : Launch) (D : GG) (o : Nat) (n : Nat) (L : List Int) (x : Int) (hx : -2147483648 ≤ x ∧ x ≤ 2147483647) : Ct l0 D y_LE_add b_LE_add 2 (Option.some FieldType.boolean) ({ frames := 1, cells := 0, slots := 0, locals := 20 } : Room) [.ref o, zV x] (fun H => isL D H o n L) (rA o (o + 2)) 0 0 (q_LE_add D o n L x) := by
  refine Ct.of (L := [(0, .ref o), (1, zV x)]) (by decide) (Nat.le_of_ble_eq_true rfl) rfl (fun M H ho hr hnm hH hpre => ?_)
  have hL := hpre
  obtain ⟨h_o, ⟨f, h_a, h_f⟩, h_n, h_3, h_w⟩ := id hL
  refine x_iload_n ho 1 d_LE_add_0 rfl ?_
  refine x_callSN (host := "MorphWords") (rest := []) ho d_LE_add_1 yv_MW_isLetter g_109 (List.mem_of_getElem? (i := 0) rfl) (c_MW_isLetter M.2.1 D x (by omega)) rfl rfl ⟨Nat.le_of_ble_eq_true rfl, Nat.le_of_ble_eq_true rfl⟩ ⟨Nat.le_of_ble_eq_true rfl, Nat.le_of_ble_eq_true rfl⟩ rfl rfl (Nat.le_of_ble_eq_true rfl) trivial fr_none' (x_rd (fun v_1 hv_1 => ?_))
  obtain rfl := hv_1
  show X _ _ _ _ _ _ _ _ _ [zV (bI (0 ≤ x ∧ x < 4))] _
  refine x_if_eqB (tgt := 19) ho d_LE_add_4 (by decide) (fun c_4 => ?_) (fun c_4 => ?_)
  ·
    refine x_iconst ho d_LE_add_19 ?_
    refine x_zret ho hr (Or.inl rfl) d_LE_add_20 ?_
    exact Or.inr ⟨rfl, by omega, hL⟩
  ·
    refine x_aload_n ho 0 d_LE_add_7 rfl ?_
    refine x_get 1 ho d_LE_add_8 cl_LE (by decide) g_98 h_o rfl ?_
    refine x_aload_n ho 0 d_LE_add_11 rfl ?_
    refine x_get 0 ho d_LE_add_12 cl_LE (by decide) g_97 h_o rfl ?_
    refine x_alen ho d_LE_add_15 h_a ?_
    refine x_icmp_lt (tgt := 21) ho d_LE_add_16 (by decide) (by omega) (by omega) (fun c_16 => ?_) (fun c_16 => ?_)
    ·
      refine x_aload_n ho 0 d_LE_add_21 rfl ?_
      refine x_get 0 ho d_LE_add_22 cl_LE (by decide) g_97 h_o rfl ?_
      refine x_aload_n ho 0 d_LE_add_25 rfl ?_
      refine x_get 1 ho d_LE_add_26 cl_LE (by decide) g_98 h_o rfl ?_
      refine x_iload_n ho 1 d_LE_add_29 rfl ?_
      refine x_iast ho d_LE_add_30 h_a (by omega) (by omega) (by omega) (rA_in (by omega) (by omega)) (fun H_3 p_4 z_5 q_6 => ?_)
      have k_7 := h_o.kept (q_6 _ (by omega))
      refine x_aload_n ho 0 d_LE_add_31 rfl ?_
      refine x_dup ho d_LE_add_32 rfl ?_
      refine x_get 1 ho d_LE_add_33 cl_LE (by decide) g_98 k_7 rfl ?_
      refine x_iconst ho d_LE_add_36 ?_
      refine x_iadd ho d_LE_add_37 ?_
      refine x_put 1 ho d_LE_add_38 cl_LE (by decide) g_98 k_7 rfl rfl rfl (Nat.le_of_ble_eq_true rfl) (rA_in (by omega) (by omega)) (fun H_8 p_9 z_10 q_11 => ?_)
      have k_12 := p_4.kept (q_11 _ (by omega))
      refine x_iconst ho d_LE_add_41 ?_
      refine x_zret ho hr (Or.inr rfl) d_LE_add_42 ?_
      exact Or.inl ⟨rfl, by omega, isL_push p_9 k_12 h_f (by omega) h_3 h_w (by omega) (by omega)⟩
    ·
      refine x_iconst ho d_LE_add_19 ?_
      refine x_zret ho hr (Or.inl rfl) d_LE_add_20 ?_
      exact Or.inr ⟨rfl, by omega, hL⟩
def q_LE_addAll (D : GG) (o : Nat) (n : Nat) (L : List Int) (p : Nat) (m : Nat) (K : List Int) : Option Value → Heap → Prop := fun v0 H => v0 = some (zV (bI ((L.length : Int) + (K.length : Int) ≤ n))) ∧ isL D H o n (tk (L ++ K) n) ∧ isL D H p m K
theorem yv_LE_addAll : Yv y_LE_addAll b_LE_addAll 3 (Option.some FieldType.boolean) 1 := ⟨g_381, g_56, by decide, by decide +kernel⟩
set_option maxHeartbeats 4000000 in
set_option maxRecDepth 100000 in
theorem c_LE_addAll (l0 : Launch) (D : GG) (o : Nat) (n : Nat) (L : List Int) (p : Nat) (m : Nat) (K : List Int) (hd : o + 2 ≤ p ∨ p + 2 ≤ o) : Ct l0 D y_LE_addAll b_LE_addAll 3 (Option.some FieldType.boolean) ({ frames := 2, cells := 0, slots := 0, locals := 41 } : Room) [.ref o, .ref p] (fun H => isL D H o n L ∧ isL D H p m K) (rA o (o + 2)) 0 0 (q_LE_addAll D o n L p m K) := by
  refine Ct.of (L := [(0, .ref o), (1, .ref p)]) (by decide) (Nat.le_of_ble_eq_true rfl) rfl (fun M H ho hr hnm hH hpre => ?_)
  obtain ⟨hL, hK⟩ := hpre
  have h_n := hL.b
  have h_w := hL.w
  have k_n := hK.b
  have k_w := hK.w
  refine x_iconst ho d_LE_addAll_0 ?_
  refine x_istore_n (L' := [(2, zV 0), (0, .ref o), (1, .ref p)]) ho d_LE_addAll_1 (by decide) rfl ?_
  have loop_2 : ∀ (kk : Nat) (i : Int) (H_1 : Heap) (gL : isL D H_1 o n (L ++ tk K i)) (gK : isL D H_1 p m K) (i0 : 0 ≤ i ∧ i ≤ (K.length : Int) ∧ (L.length : Int) + i ≤ n), ((K.length : Int) - i).toNat < kk → X M ({ frames := 2, cells := 0, slots := 0, locals := 41 } : Room) 3 (rA o (o + 2)) 0 0 (Qof M (rA o (o + 2)) (q_LE_addAll D o n L p m K) 0 0) 2 [(2, zV i), (0, .ref o), (1, .ref p)] [] H_1 := by
    intro kk
    induction kk with
    | zero => intro i H_1 gL gK i0 hk; exact absurd hk (Nat.not_lt_zero _)
    | succ kk ih_2 =>
      intro i H_1 gL gK i0 hk_2
      refine x_iload_n ho 0 d_LE_addAll_2 rfl ?_
      refine x_aload_n ho 2 d_LE_addAll_3 rfl ?_
      refine x_get 1 ho d_LE_addAll_4 cl_LE (by decide) g_98 gK.1 rfl ?_
      refine x_icmp_ge (tgt := 30) ho d_LE_addAll_7 (by decide) (by omega) (by omega) (fun c_7 => ?_) (fun c_7 => ?_)
      ·
        refine x_iconst ho d_LE_addAll_30 ?_
        refine x_zret ho hr (Or.inr rfl) d_LE_addAll_31 ?_
        exact ⟨rT (by omega), by rw [tk_app (by omega), show (n : Int) - (L.length : Int) = n - (L.length : Int) from rfl, tk_all (by omega)]; rw [tk_all (by omega)] at gL; exact gL, gK⟩
      ·
        refine x_aload_n ho 1 d_LE_addAll_10 rfl ?_
        refine x_aload_n ho 2 d_LE_addAll_11 rfl ?_
        refine x_iload_n ho 0 d_LE_addAll_12 rfl ?_
        refine x_callV (rest := [.ref o]) ho d_LE_addAll_13 yv_LE_letterAt g_343 g_344 g_342 (c_LE_letterAt M.2.1 D p m K i (by omega)) rfl rfl ⟨Nat.le_of_ble_eq_true rfl, Nat.le_of_ble_eq_true rfl⟩ ⟨Nat.le_of_ble_eq_true rfl, Nat.le_of_ble_eq_true rfl⟩ rfl rfl (Nat.le_of_ble_eq_true rfl) gK.1 rfl rfl gK fr_none' (x_rd (fun v_2 hv_2 => ?_))
        obtain ⟨rfl, hr_4⟩ := hv_2
        show X _ _ _ _ _ _ _ _ _ [zV (lat K i), .ref o] _
        refine x_eqI (b := gA K i) (by exact lat_in (by omega) (by omega)) ?_
        have hg := gA_r k_w i
        have hl : ((L ++ tk K i).length : Int) = (L.length : Int) + i := by rw [List.length_append]; have := tk_len (L := K) (i := i) (by omega) (by omega); omega
        refine x_callV (rest := []) ho d_LE_addAll_16 yv_LE_add g_106 g_107 g_382 (c_LE_add M.2.1 D o n (L ++ tk K i) (gA K i) (by omega)) rfl rfl ⟨Nat.le_of_ble_eq_true rfl, Nat.le_of_ble_eq_true rfl⟩ ⟨Nat.le_of_ble_eq_true rfl, Nat.le_of_ble_eq_true rfl⟩ rfl rfl (Nat.le_of_ble_eq_true rfl) gL.1 rfl rfl gL (rA_sub (by omega) (by omega)) (fun v_5 H_7 hv_5 f_6 => ?_)
        have k_8 := gK.kept (fun q g1 g2 => f_6.2 q (by have := gK.lt; omega) (rA_no (by omega)))
        rcases hv_5 with ⟨rfl, hp_9, hL_10⟩ | ⟨rfl, hp_11, hL_12⟩
        ·
          show X _ _ _ _ _ _ _ _ _ [zV 1] _
          refine x_if_ne (tgt := 24) ho d_LE_addAll_19 (by decide) (by omega) (fun _ => ?_) (fun c => absurd c (by decide))
          refine x_iinc (L' := [(2, zV (i + 1)), (0, .ref o), (1, .ref p)]) ho 0 d_LE_addAll_24 rfl rfl (by decide) rfl ?_
          refine x_goto (tgt := 2) ho d_LE_addAll_27 (by decide) ?_
          exact ih_2 (i + 1) H_7 (by rw [tk_succ (by omega) (by omega), ← List.append_assoc]; exact hL_10) k_8 (by omega) (by omega)
        ·
          show X _ _ _ _ _ _ _ _ _ [zV 0] _
          refine x_if_ne (tgt := 24) ho d_LE_addAll_19 (by decide) (by omega) (fun c => absurd c (by decide)) (fun _ => ?_)
          refine x_iconst ho d_LE_addAll_22 ?_
          refine x_zret ho hr (Or.inl rfl) d_LE_addAll_23 ?_
          exact ⟨rF (by omega), by rw [tk_app (by omega), show (n : Int) - (L.length : Int) = i by omega]; exact hL_12, k_8⟩
  exact loop_2 _ 0 H (by rw [tk_0, List.append_nil]; exact hL) hK (by omega) (Nat.lt_succ_self _)
def q_LE_shorten (D : GG) (o : Nat) (n : Nat) (L : List Int) (t : Int) : Option Value → Heap → Prop := fun v0 H => v0 = none ∧ isL D H o n (tk L t)
theorem yv_LE_shorten : Yv y_LE_shorten b_LE_shorten 2 (Option.none : Option FieldType) 1 := ⟨g_448, g_56, by decide, by decide +kernel⟩
set_option maxHeartbeats 4000000 in
set_option maxRecDepth 100000 in
theorem c_LE_shorten (l0 : Launch) (D : GG) (o : Nat) (n : Nat) (L : List Int) (t : Int) (ht : -2147483648 ≤ t ∧ t ≤ 2147483647) (h1 : 1 ≤ t) : Ct l0 D y_LE_shorten b_LE_shorten 2 (Option.none : Option FieldType) ({ frames := 0, cells := 0, slots := 0, locals := 0 } : Room) [.ref o, zV t] (fun H => isL D H o n L) (rA o (o + 2)) 0 0 (q_LE_shorten D o n L t) := by
  refine Ct.of (L := [(0, .ref o), (1, zV t)]) (by decide) (Nat.le_of_ble_eq_true rfl) rfl (fun M H ho hr hnm hH hpre => ?_)
  have hL := hpre
  obtain ⟨h_o, ⟨f, h_a, h_f⟩, h_n, h_3, h_w⟩ := id hL
  refine x_iload_n ho 1 d_LE_shorten_0 rfl ?_
  refine x_if_lt (tgt := 17) ho d_LE_shorten_1 (by decide) (by omega) (fun c_1 => ?_) (fun c_1 => ?_)
  ·
    refine x_vret ho hr d_LE_shorten_17 ?_
    exact absurd c_1 (by omega)
  ·
    refine x_iload_n ho 1 d_LE_shorten_4 rfl ?_
    refine x_aload_n ho 0 d_LE_shorten_5 rfl ?_
    refine x_get 1 ho d_LE_shorten_6 cl_LE (by decide) g_98 h_o rfl ?_
    refine x_icmp_ge (tgt := 17) ho d_LE_shorten_9 (by decide) (by omega) (by omega) (fun c_9 => ?_) (fun c_9 => ?_)
    ·
      refine x_vret ho hr d_LE_shorten_17 ?_
      exact ⟨rfl, by rw [tk_all (by omega)]; exact hL⟩
    ·
      refine x_aload_n ho 0 d_LE_shorten_12 rfl ?_
      refine x_iload_n ho 1 d_LE_shorten_13 rfl ?_
      refine x_put 1 ho d_LE_shorten_14 cl_LE (by decide) g_98 h_o rfl rfl rfl (Nat.le_of_ble_eq_true rfl) (rA_in (by omega) (by omega)) (fun H_1 p_2 z_3 q_4 => ?_)
      have k_5 := h_a.kept (q_4 _ (by omega))
      refine x_vret ho hr d_LE_shorten_17 ?_
      exact ⟨rfl, isL_mk p_2 k_5 (tk_len (by omega) (by omega)).symm (fun j h0 h1 => by rw [tk_len (by omega) (by omega)] at h1; rw [gA_tk h0 h1]; exact h_f j h0 (by omega)) (by have := tk_len (L := L) (i := t) (by omega) (by omega); omega) h_3 (wf_tk h_w t)⟩
def q_LE_become (D : GG) (o : Nat) (n : Nat) (L : List Int) (p : Nat) (m : Nat) (K : List Int) : Option Value → Heap → Prop := fun v0 H => v0 = none ∧ isL D H o n K ∧ isL D H p m K
theorem yv_LE_become : Yv y_LE_become b_LE_become 3 (Option.none : Option FieldType) 1 := ⟨g_300, g_56, by decide, by decide +kernel⟩
set_option maxHeartbeats 4000000 in
set_option maxRecDepth 100000 in
theorem c_LE_become (l0 : Launch) (D : GG) (o : Nat) (n : Nat) (L : List Int) (p : Nat) (m : Nat) (K : List Int) (hd : o + 2 ≤ p ∨ p + 2 ≤ o) (hm : (K.length : Int) ≤ n) : Ct l0 D y_LE_become b_LE_become 3 (Option.none : Option FieldType) ({ frames := 1, cells := 0, slots := 0, locals := 60 } : Room) [.ref o, .ref p] (fun H => isL D H o n L ∧ isL D H p m K) (rA o (o + 2)) 0 0 (q_LE_become D o n L p m K) := by
  refine Ct.of (L := [(0, .ref o), (1, .ref p)]) (by decide) (Nat.le_of_ble_eq_true rfl) rfl (fun M H ho hr hnm hH hpre => ?_)
  obtain ⟨hL, hK⟩ := hpre
  obtain ⟨h_o, ⟨f, h_a, h_f⟩, h_n, h_3, h_w⟩ := id hL
  obtain ⟨k_o, ⟨g, k_a, k_f⟩, k_n, k_3, k_w⟩ := id hK
  refine x_aload_n ho 1 d_LE_become_0 rfl ?_
  refine x_get 1 ho d_LE_become_1 cl_LE (by decide) g_98 k_o rfl ?_
  refine x_aload_n ho 0 d_LE_become_4 rfl ?_
  refine x_get 0 ho d_LE_become_5 cl_LE (by decide) g_97 h_o rfl ?_
  refine x_alen ho d_LE_become_8 h_a ?_
  refine x_mmin ho d_LE_become_9 g_301 (by omega) (by omega) (Nat.le_of_ble_eq_true rfl) (Nat.le_of_ble_eq_true rfl) (Nat.zero_le _) (Nat.zero_le _) ?_
  refine x_eqI (b := (K.length : Int)) (by exact if_neg (by omega)) ?_
  refine x_istore_n (L' := [(2, zV ((K.length : Int))), (0, .ref o), (1, .ref p)]) ho d_LE_become_12 (by decide) rfl ?_
  refine x_aload_n ho 2 d_LE_become_13 rfl ?_
  refine x_get 0 ho d_LE_become_14 cl_LE (by decide) g_97 k_o rfl ?_
  refine x_iconst ho d_LE_become_17 ?_
  refine x_aload_n ho 1 d_LE_become_18 rfl ?_
  refine x_get 0 ho d_LE_become_19 cl_LE (by decide) g_97 h_o rfl ?_
  refine x_iconst ho d_LE_become_22 ?_
  refine x_iload_n ho 0 d_LE_become_23 rfl ?_
  refine x_copy ho d_LE_become_24 g_304 k_a h_a (by omega) (by omega) (by omega) (by omega) (by omega) (by omega) (by omega) (Nat.le_of_ble_eq_true rfl) (Nat.le_of_ble_eq_true rfl) (rA_in (by omega) (by omega)) (fun H_1 p_2 z_3 q_4 => ?_)
  have k_5 := h_o.kept (q_4 _ (by omega))
  have k_6 := k_o.kept (q_4 _ (by omega))
  have k_7 := k_a.kept (q_4 _ (by omega))
  refine x_aload_n ho 1 d_LE_become_27 rfl ?_
  refine x_iload_n ho 0 d_LE_become_28 rfl ?_
  refine x_put 1 ho d_LE_become_29 cl_LE (by decide) g_98 k_5 rfl rfl rfl (Nat.le_of_ble_eq_true rfl) (rA_in (by omega) (by omega)) (fun H_8 p_9 z_10 q_11 => ?_)
  have k_12 := k_6.kept (q_11 _ (by omega))
  have k_13 := k_7.kept (q_11 _ (by omega))
  have k_14 := p_2.kept (q_11 _ (by omega))
  refine x_vret ho hr d_LE_become_32 ?_
  exact ⟨rfl, isL_mk p_9 k_14 rfl (fun j h0 h1 => by rw [zC_in _ _ (by omega) (by omega), show (0 : Int) + (j - 0) = j by omega]; exact k_f j h0 h1) (by omega) h_3 k_w, isL_mk k_12 k_13 rfl k_f k_n k_3 k_w⟩
def q_LE_hasFrom (D : GG) (o : Nat) (n : Nat) (L : List Int) (z : Int) (p : Nat) (m : Nat) (K : List Int) : Option Value → Heap → Prop := fun v0 H => (v0 = some (zV (bI (∀ j : Int, 0 ≤ j → j < (K.length : Int) → lat L (z + j) = gA K j))))
theorem yv_LE_hasFrom : Yv y_LE_hasFrom b_LE_hasFrom 4 (Option.some FieldType.boolean) 2 := ⟨g_341, g_56, by decide, by decide +kernel⟩
set_option maxHeartbeats 4000000 in
set_option maxRecDepth 100000 in
theorem c_LE_hasFrom (l0 : Launch) (D : GG) (o : Nat) (n : Nat) (L : List Int) (z : Int) (p : Nat) (m : Nat) (K : List Int) (hz : -1000 ≤ z ∧ z ≤ 1000) : Ct l0 D y_LE_hasFrom b_LE_hasFrom 4 (Option.some FieldType.boolean) ({ frames := 1, cells := 0, slots := 0, locals := 21 } : Room) [.ref o, zV z, .ref p] (fun H => isL D H o n L ∧ isL D H p m K) nA 0 0 (q_LE_hasFrom D o n L z p m K) := by
  refine Ct.of (L := [(0, .ref o), (1, zV z), (2, .ref p)]) (by decide) (Nat.le_of_ble_eq_true rfl) rfl (fun M H ho hr hnm hH hpre => ?_)
  obtain ⟨hL, hK⟩ := hpre
  have h_n := hL.b
  have h_w := hL.w
  have k_n := hK.b
  have k_w := hK.w
  refine x_iconst ho d_LE_hasFrom_0 ?_
  refine x_istore_n (L' := [(3, zV 0), (0, .ref o), (1, zV z), (2, .ref p)]) ho d_LE_hasFrom_1 (by decide) rfl ?_
  have loop_2 : ∀ (kk : Nat) (i : Int) (i0 : 0 ≤ i ∧ i ≤ (K.length : Int)) (hj : ∀ j : Int, 0 ≤ j → j < i → lat L (z + j) = gA K j), ((K.length : Int) - i).toNat < kk → X M ({ frames := 1, cells := 0, slots := 0, locals := 21 } : Room) 4 nA 0 0 (Qof M nA (q_LE_hasFrom D o n L z p m K) 0 0) 2 [(3, zV i), (0, .ref o), (1, zV z), (2, .ref p)] [] H := by
    intro kk
    induction kk with
    | zero => intro i i0 hj hk; exact absurd hk (Nat.not_lt_zero _)
    | succ kk ih_2 =>
      intro i i0 hj hk_2
      refine x_iload_n ho 0 d_LE_hasFrom_2 rfl ?_
      refine x_aload_n ho 3 d_LE_hasFrom_3 rfl ?_
      refine x_get 1 ho d_LE_hasFrom_4 cl_LE (by decide) g_98 hK.1 rfl ?_
      refine x_icmp_ge (tgt := 33) ho d_LE_hasFrom_7 (by decide) (by omega) (by omega) (fun c_7 => ?_) (fun c_7 => ?_)
      ·
        refine x_iconst ho d_LE_hasFrom_33 ?_
        refine x_zret ho hr (Or.inr rfl) d_LE_hasFrom_34 ?_
        exact rT (by intro j h0 h1; exact hj j h0 (by omega))
      ·
        refine x_aload_n ho 1 d_LE_hasFrom_10 rfl ?_
        refine x_iload_n ho 2 d_LE_hasFrom_11 rfl ?_
        refine x_iload_n ho 0 d_LE_hasFrom_12 rfl ?_
        refine x_iadd ho d_LE_hasFrom_13 ?_
        refine x_callV (rest := []) ho d_LE_hasFrom_14 yv_LE_letterAt g_343 g_344 g_342 (c_LE_letterAt M.2.1 D o n L (z + i) (by omega)) rfl rfl ⟨Nat.le_of_ble_eq_true rfl, Nat.le_of_ble_eq_true rfl⟩ ⟨Nat.le_of_ble_eq_true rfl, Nat.le_of_ble_eq_true rfl⟩ rfl rfl (Nat.le_of_ble_eq_true rfl) hL.1 rfl rfl hL fr_none' (x_rd (fun v_1 hv_1 => ?_))
        obtain ⟨rfl, hr_3⟩ := hv_1
        show X _ _ _ _ _ _ _ _ _ [zV (lat L (z + i))] _
        refine x_aload_n ho 3 d_LE_hasFrom_17 rfl ?_
        refine x_iload_n ho 0 d_LE_hasFrom_18 rfl ?_
        refine x_callV (rest := [zV (lat L (z + i))]) ho d_LE_hasFrom_19 yv_LE_letterAt g_343 g_344 g_342 (c_LE_letterAt M.2.1 D p m K i (by omega)) rfl rfl ⟨Nat.le_of_ble_eq_true rfl, Nat.le_of_ble_eq_true rfl⟩ ⟨Nat.le_of_ble_eq_true rfl, Nat.le_of_ble_eq_true rfl⟩ rfl rfl (Nat.le_of_ble_eq_true rfl) hK.1 rfl rfl hK fr_none' (x_rd (fun v_4 hv_4 => ?_))
        obtain ⟨rfl, hr_6⟩ := hv_4
        show X _ _ _ _ _ _ _ _ _ [zV (lat K i), zV (lat L (z + i))] _
        refine x_eqI (b := gA K i) (by exact lat_in (by omega) (by omega)) ?_
        have hg := gA_r k_w i
        refine x_icmp_eq (tgt := 27) ho d_LE_hasFrom_22 (by decide) (by omega) (by omega) (fun c_22 => ?_) (fun c_22 => ?_)
        ·
          refine x_iinc (L' := [(3, zV (i + 1)), (0, .ref o), (1, zV z), (2, .ref p)]) ho 0 d_LE_hasFrom_27 rfl rfl (by decide) rfl ?_
          refine x_goto (tgt := 2) ho d_LE_hasFrom_30 (by decide) ?_
          exact ih_2 (i + 1) (by omega) (by intro j h0 h1; rcases (show j < i ∨ j = i by omega) with h | h; exact hj j h0 h; subst h; exact c_22) (by omega)
        ·
          refine x_iconst ho d_LE_hasFrom_25 ?_
          refine x_zret ho hr (Or.inl rfl) d_LE_hasFrom_26 ?_
          exact rF (by intro h; exact c_22 (h i (by omega) (by omega)))
  exact loop_2 _ 0 (by omega) (by intro j h0 h1; omega) (Nat.lt_succ_self _)
def q_LE_same (D : GG) (o : Nat) (n : Nat) (L : List Int) (p : Nat) (m : Nat) (K : List Int) : Option Value → Heap → Prop := fun v0 H => v0 = some (zV (bI (L = K)))
theorem yv_LE_same : Yv y_LE_same b_LE_same 2 (Option.some FieldType.boolean) 1 := ⟨g_337, g_56, by decide, by decide +kernel⟩
set_option maxHeartbeats 4000000 in
set_option maxRecDepth 100000 in
theorem c_LE_same (l0 : Launch) (D : GG) (o : Nat) (n : Nat) (L : List Int) (p : Nat) (m : Nat) (K : List Int)  : Ct l0 D y_LE_same b_LE_same 2 (Option.some FieldType.boolean) ({ frames := 2, cells := 0, slots := 0, locals := 44 } : Room) [.ref o, .ref p] (fun H => isL D H o n L ∧ isL D H p m K) nA 0 0 (q_LE_same D o n L p m K) := by
  refine Ct.of (L := [(0, .ref o), (1, .ref p)]) (by decide) (Nat.le_of_ble_eq_true rfl) rfl (fun M H ho hr hnm hH hpre => ?_)
  obtain ⟨hL, hK⟩ := hpre
  have h_n := hL.b
  have h_w := hL.w
  have k_n := hK.b
  have k_w := hK.w
  refine x_aload_n ho 0 d_LE_same_0 rfl ?_
  refine x_get 1 ho d_LE_same_1 cl_LE (by decide) g_98 hL.1 rfl ?_
  refine x_aload_n ho 1 d_LE_same_4 rfl ?_
  refine x_get 1 ho d_LE_same_5 cl_LE (by decide) g_98 hK.1 rfl ?_
  refine x_icmp_ne (tgt := 24) ho d_LE_same_8 (by decide) (by omega) (by omega) (fun c_8 => ?_) (fun c_8 => ?_)
  ·
    refine x_iconst ho d_LE_same_24 ?_
    refine x_zret ho hr (Or.inl rfl) d_LE_same_25 ?_
    exact rF (fun h => c_8 (by rw [h]))
  ·
    refine x_aload_n ho 0 d_LE_same_11 rfl ?_
    refine x_iconst ho d_LE_same_12 ?_
    refine x_aload_n ho 1 d_LE_same_13 rfl ?_
    refine x_callV (rest := []) ho d_LE_same_14 yv_LE_hasFrom g_339 g_340 g_338 (c_LE_hasFrom M.2.1 D o n L 0 p m K (by omega)) rfl rfl ⟨Nat.le_of_ble_eq_true rfl, Nat.le_of_ble_eq_true rfl⟩ ⟨Nat.le_of_ble_eq_true rfl, Nat.le_of_ble_eq_true rfl⟩ rfl rfl (Nat.le_of_ble_eq_true rfl) hL.1 rfl rfl ⟨hL, hK⟩ fr_none' (x_rd (fun v_1 hv_1 => ?_))
    obtain rfl := hv_1
    show X _ _ _ _ _ _ _ _ _ [zV (bI (∀ j : Int, 0 ≤ j → j < (K.length : Int) → lat L (0 + j) = gA K j))] _
    refine x_if_eqB (tgt := 24) ho d_LE_same_17 (by decide) (fun c_17 => ?_) (fun c_17 => ?_)
    ·
      refine x_iconst ho d_LE_same_24 ?_
      refine x_zret ho hr (Or.inl rfl) d_LE_same_25 ?_
      exact rF (fun h => c_17 (fun j h0 h1 => by subst h; rw [Int.zero_add]; exact lat_in h0 h1))
    ·
      refine x_iconst ho d_LE_same_20 ?_
      refine x_goto (tgt := 25) ho d_LE_same_21 (by decide) ?_
      refine x_zret ho hr (Or.inr rfl) d_LE_same_25 ?_
      exact rT (li_ext c_8 (fun j h0 h1 => by have := c_17 j h0 (by omega); rw [Int.zero_add, lat_in h0 h1] at this; exact this))
def q_LE_repeats (D : GG) (o : Nat) (n : Nat) (L : List Int) (a : Int) (b : Int) (s : Int) : Option Value → Heap → Prop := fun v0 H => (v0 = some (zV (bI (∀ j : Int, 0 ≤ j → j < s → lat L (a + j) = lat L (b + j)))))
theorem yv_LE_repeats : Yv y_LE_repeats b_LE_repeats 5 (Option.some FieldType.boolean) 3 := ⟨g_480, g_56, by decide, by decide +kernel⟩
set_option maxHeartbeats 4000000 in
set_option maxRecDepth 100000 in
theorem c_LE_repeats (l0 : Launch) (D : GG) (o : Nat) (n : Nat) (L : List Int) (a : Int) (b : Int) (s : Int) (ha : -1000 ≤ a ∧ a ≤ 1000) (hb : -1000 ≤ b ∧ b ≤ 1000) (hs : -1000 ≤ s ∧ s ≤ 1000) : Ct l0 D y_LE_repeats b_LE_repeats 5 (Option.some FieldType.boolean) ({ frames := 1, cells := 0, slots := 0, locals := 21 } : Room) [.ref o, zV a, zV b, zV s] (fun H => isL D H o n L) nA 0 0 (q_LE_repeats D o n L a b s) := by
  refine Ct.of (L := [(0, .ref o), (1, zV a), (2, zV b), (3, zV s)]) (by decide) (Nat.le_of_ble_eq_true rfl) rfl (fun M H ho hr hnm hH hpre => ?_)
  have hL := hpre
  have h_n := hL.b
  have h_w := hL.w
  refine x_iconst ho d_LE_repeats_0 ?_
  refine x_istore (L' := [(4, zV 0), (0, .ref o), (1, zV a), (2, zV b), (3, zV s)]) ho d_LE_repeats_1 (by decide) rfl ?_
  have loop_3 : ∀ (kk : Nat) (i : Int) (i0 : 0 ≤ i ∧ (i ≤ s ∨ i = 0)) (hj : ∀ j : Int, 0 ≤ j → j < i → lat L (a + j) = lat L (b + j)), (s - i).toNat < kk → X M ({ frames := 1, cells := 0, slots := 0, locals := 21 } : Room) 5 nA 0 0 (Qof M nA (q_LE_repeats D o n L a b s) 0 0) 3 [(4, zV i), (0, .ref o), (1, zV a), (2, zV b), (3, zV s)] [] H := by
    intro kk
    induction kk with
    | zero => intro i i0 hj hk; exact absurd hk (Nat.not_lt_zero _)
    | succ kk ih_3 =>
      intro i i0 hj hk_3
      refine x_iload ho 0 d_LE_repeats_3 rfl ?_
      refine x_iload_n ho 4 d_LE_repeats_5 rfl ?_
      refine x_icmp_ge (tgt := 36) ho d_LE_repeats_6 (by decide) (by omega) (by omega) (fun c_6 => ?_) (fun c_6 => ?_)
      ·
        refine x_iconst ho d_LE_repeats_36 ?_
        refine x_zret ho hr (Or.inr rfl) d_LE_repeats_37 ?_
        exact rT (by intro j h0 h1; exact hj j h0 (by omega))
      ·
        refine x_aload_n ho 1 d_LE_repeats_9 rfl ?_
        refine x_iload_n ho 2 d_LE_repeats_10 rfl ?_
        refine x_iload ho 0 d_LE_repeats_11 rfl ?_
        refine x_iadd ho d_LE_repeats_13 ?_
        refine x_callV (rest := []) ho d_LE_repeats_14 yv_LE_letterAt g_343 g_344 g_342 (c_LE_letterAt M.2.1 D o n L (a + i) (by omega)) rfl rfl ⟨Nat.le_of_ble_eq_true rfl, Nat.le_of_ble_eq_true rfl⟩ ⟨Nat.le_of_ble_eq_true rfl, Nat.le_of_ble_eq_true rfl⟩ rfl rfl (Nat.le_of_ble_eq_true rfl) hL.1 rfl rfl hL fr_none' (x_rd (fun v_1 hv_1 => ?_))
        obtain ⟨rfl, hr_3⟩ := hv_1
        show X _ _ _ _ _ _ _ _ _ [zV (lat L (a + i))] _
        refine x_aload_n ho 1 d_LE_repeats_17 rfl ?_
        refine x_iload_n ho 3 d_LE_repeats_18 rfl ?_
        refine x_iload ho 0 d_LE_repeats_19 rfl ?_
        refine x_iadd ho d_LE_repeats_21 ?_
        refine x_callV (rest := [zV (lat L (a + i))]) ho d_LE_repeats_22 yv_LE_letterAt g_343 g_344 g_342 (c_LE_letterAt M.2.1 D o n L (b + i) (by omega)) rfl rfl ⟨Nat.le_of_ble_eq_true rfl, Nat.le_of_ble_eq_true rfl⟩ ⟨Nat.le_of_ble_eq_true rfl, Nat.le_of_ble_eq_true rfl⟩ rfl rfl (Nat.le_of_ble_eq_true rfl) hL.1 rfl rfl hL fr_none' (x_rd (fun v_4 hv_4 => ?_))
        obtain ⟨rfl, hr_6⟩ := hv_4
        show X _ _ _ _ _ _ _ _ _ [zV (lat L (b + i)), zV (lat L (a + i))] _
        refine x_icmp_eq (tgt := 30) ho d_LE_repeats_25 (by decide) (by omega) (by omega) (fun c_25 => ?_) (fun c_25 => ?_)
        ·
          refine x_iinc (L' := [(4, zV (i + 1)), (0, .ref o), (1, zV a), (2, zV b), (3, zV s)]) ho 0 d_LE_repeats_30 rfl rfl (by decide) rfl ?_
          refine x_goto (tgt := 3) ho d_LE_repeats_33 (by decide) ?_
          exact ih_3 (i + 1) (by omega) (by intro j h0 h1; rcases (show j < i ∨ j = i by omega) with h | h; exact hj j h0 h; subst h; exact c_25) (by omega)
        ·
          refine x_iconst ho d_LE_repeats_28 ?_
          refine x_zret ho hr (Or.inl rfl) d_LE_repeats_29 ?_
          exact rF (by intro h; exact c_25 (h i (by omega) (by omega)))
  exact loop_3 _ 0 (by omega) (by intro j h0 h1; omega) (Nat.lt_succ_self _)
def q_LE_isMirrored (D : GG) (o : Nat) (n : Nat) (L : List Int) (a : Int) (s : Int) : Option Value → Heap → Prop := fun v0 H => (v0 = some (zV (bI (∀ j : Int, 0 ≤ j → j < s / 2 → lat L (a + j) = lat L (a + s - 1 - j)))))
theorem yv_LE_isMirrored : Yv y_LE_isMirrored b_LE_isMirrored 4 (Option.some FieldType.boolean) 2 := ⟨g_648, g_56, by decide, by decide +kernel⟩
set_option maxHeartbeats 4000000 in
set_option maxRecDepth 100000 in
theorem c_LE_isMirrored (l0 : Launch) (D : GG) (o : Nat) (n : Nat) (L : List Int) (a : Int) (s : Int) (ha : 0 ≤ a ∧ a ≤ 1000) (hs : 0 ≤ s ∧ s ≤ 1000) : Ct l0 D y_LE_isMirrored b_LE_isMirrored 4 (Option.some FieldType.boolean) ({ frames := 1, cells := 0, slots := 0, locals := 21 } : Room) [.ref o, zV a, zV s] (fun H => isL D H o n L) nA 0 0 (q_LE_isMirrored D o n L a s) := by
  refine Ct.of (L := [(0, .ref o), (1, zV a), (2, zV s)]) (by decide) (Nat.le_of_ble_eq_true rfl) rfl (fun M H ho hr hnm hH hpre => ?_)
  have hL := hpre
  have h_n := hL.b
  have h_w := hL.w
  refine x_iconst ho d_LE_isMirrored_0 ?_
  refine x_istore_n (L' := [(3, zV 0), (0, .ref o), (1, zV a), (2, zV s)]) ho d_LE_isMirrored_1 (by decide) rfl ?_
  have loop_2 : ∀ (kk : Nat) (i : Int) (i0 : 0 ≤ i ∧ i ≤ s / 2) (hj : ∀ j : Int, 0 ≤ j → j < i → lat L (a + j) = lat L (a + s - 1 - j)), (s / 2 - i).toNat < kk → X M ({ frames := 1, cells := 0, slots := 0, locals := 21 } : Room) 4 nA 0 0 (Qof M nA (q_LE_isMirrored D o n L a s) 0 0) 2 [(3, zV i), (0, .ref o), (1, zV a), (2, zV s)] [] H := by
    intro kk
    induction kk with
    | zero => intro i i0 hj hk; exact absurd hk (Nat.not_lt_zero _)
    | succ kk ih_2 =>
      intro i i0 hj hk_2
      refine x_iload_n ho 0 d_LE_isMirrored_2 rfl ?_
      refine x_iload_n ho 3 d_LE_isMirrored_3 rfl ?_
      refine x_iconst ho d_LE_isMirrored_4 ?_
      refine x_idiv ho d_LE_isMirrored_5 (by omega) (by omega) ?_
      refine x_icmp_ge (tgt := 38) ho d_LE_isMirrored_6 (by decide) (by omega) (by omega) (fun c_6 => ?_) (fun c_6 => ?_)
      ·
        refine x_iconst ho d_LE_isMirrored_38 ?_
        refine x_zret ho hr (Or.inr rfl) d_LE_isMirrored_39 ?_
        exact rT (by intro j h0 h1; exact hj j h0 (by omega))
      ·
        refine x_aload_n ho 1 d_LE_isMirrored_9 rfl ?_
        refine x_iload_n ho 2 d_LE_isMirrored_10 rfl ?_
        refine x_iload_n ho 0 d_LE_isMirrored_11 rfl ?_
        refine x_iadd ho d_LE_isMirrored_12 ?_
        refine x_callV (rest := []) ho d_LE_isMirrored_13 yv_LE_letterAt g_343 g_344 g_342 (c_LE_letterAt M.2.1 D o n L (a + i) (by omega)) rfl rfl ⟨Nat.le_of_ble_eq_true rfl, Nat.le_of_ble_eq_true rfl⟩ ⟨Nat.le_of_ble_eq_true rfl, Nat.le_of_ble_eq_true rfl⟩ rfl rfl (Nat.le_of_ble_eq_true rfl) hL.1 rfl rfl hL fr_none' (x_rd (fun v_1 hv_1 => ?_))
        obtain ⟨rfl, hr_3⟩ := hv_1
        show X _ _ _ _ _ _ _ _ _ [zV (lat L (a + i))] _
        refine x_aload_n ho 1 d_LE_isMirrored_16 rfl ?_
        refine x_iload_n ho 2 d_LE_isMirrored_17 rfl ?_
        refine x_iload_n ho 3 d_LE_isMirrored_18 rfl ?_
        refine x_iadd ho d_LE_isMirrored_19 ?_
        refine x_iconst ho d_LE_isMirrored_20 ?_
        refine x_isub ho d_LE_isMirrored_21 ?_
        refine x_iload_n ho 0 d_LE_isMirrored_22 rfl ?_
        refine x_isub ho d_LE_isMirrored_23 ?_
        refine x_callV (rest := [zV (lat L (a + i))]) ho d_LE_isMirrored_24 yv_LE_letterAt g_343 g_344 g_342 (c_LE_letterAt M.2.1 D o n L (((a + s) - 1) - i) (by omega)) rfl rfl ⟨Nat.le_of_ble_eq_true rfl, Nat.le_of_ble_eq_true rfl⟩ ⟨Nat.le_of_ble_eq_true rfl, Nat.le_of_ble_eq_true rfl⟩ rfl rfl (Nat.le_of_ble_eq_true rfl) hL.1 rfl rfl hL fr_none' (x_rd (fun v_4 hv_4 => ?_))
        obtain ⟨rfl, hr_6⟩ := hv_4
        show X _ _ _ _ _ _ _ _ _ [zV (lat L (((a + s) - 1) - i)), zV (lat L (a + i))] _
        refine x_icmp_eq (tgt := 32) ho d_LE_isMirrored_27 (by decide) (by omega) (by omega) (fun c_27 => ?_) (fun c_27 => ?_)
        ·
          refine x_iinc (L' := [(3, zV (i + 1)), (0, .ref o), (1, zV a), (2, zV s)]) ho 0 d_LE_isMirrored_32 rfl rfl (by decide) rfl ?_
          refine x_goto (tgt := 2) ho d_LE_isMirrored_35 (by decide) ?_
          exact ih_2 (i + 1) (by omega) (by intro j h0 h1; rcases (show j < i ∨ j = i by omega) with h | h; exact hj j h0 h; subst h; exact c_27) (by omega)
        ·
          refine x_iconst ho d_LE_isMirrored_30 ?_
          refine x_zret ho hr (Or.inl rfl) d_LE_isMirrored_31 ?_
          exact rF (by intro h; exact c_27 (h i (by omega) (by omega)))
  exact loop_2 _ 0 (by omega) (by intro j h0 h1; omega) (Nat.lt_succ_self _)
def q_LE_bits (D : GG) (o : Nat) (n : Nat) (L : List Int) : Option Value → Heap → Prop := fun v0 H => v0 = some (zV (bitL L)) ∧ (0 ≤ bitL L ∧ bitL L < 16)
theorem yv_LE_bits : Yv y_LE_bits b_LE_bits 3 (Option.some FieldType.int) 0 := ⟨g_556, g_56, by decide, by decide +kernel⟩
set_option maxHeartbeats 4000000 in
set_option maxRecDepth 100000 in
theorem c_LE_bits (l0 : Launch) (D : GG) (o : Nat) (n : Nat) (L : List Int)  : Ct l0 D y_LE_bits b_LE_bits 3 (Option.some FieldType.int) ({ frames := 1, cells := 0, slots := 0, locals := 21 } : Room) [.ref o] (fun H => isL D H o n L) nA 0 0 (q_LE_bits D o n L) := by
  refine Ct.of (L := [(0, .ref o)]) (by decide) (Nat.le_of_ble_eq_true rfl) rfl (fun M H ho hr hnm hH hpre => ?_)
  have hL := hpre
  have h_n := hL.b
  have h_w := hL.w
  refine x_iconst ho d_LE_bits_0 ?_
  refine x_istore_n (L' := [(1, zV 0), (0, .ref o)]) ho d_LE_bits_1 (by decide) rfl ?_
  refine x_iconst ho d_LE_bits_2 ?_
  refine x_istore_n (L' := [(2, zV 0), (1, zV 0), (0, .ref o)]) ho d_LE_bits_3 (by decide) rfl ?_
  have loop_4 : ∀ (kk : Nat) (i : Int) (b : Int) (i0 : 0 ≤ i ∧ i ≤ (L.length : Int)) (hb : b = bitL (tk L i)), ((L.length : Int) - i).toNat < kk → X M ({ frames := 1, cells := 0, slots := 0, locals := 21 } : Room) 3 nA 0 0 (Qof M nA (q_LE_bits D o n L) 0 0) 4 [(2, zV i), (1, zV b), (0, .ref o)] [] H := by
    intro kk
    induction kk with
    | zero => intro i b i0 hb hk; exact absurd hk (Nat.not_lt_zero _)
    | succ kk ih_4 =>
      intro i b i0 hb hk_4
      refine x_iload_n ho 0 d_LE_bits_4 rfl ?_
      refine x_aload_n ho 2 d_LE_bits_5 rfl ?_
      refine x_get 1 ho d_LE_bits_6 cl_LE (by decide) g_98 hL.1 rfl ?_
      refine x_icmp_ge (tgt := 28) ho d_LE_bits_9 (by decide) (by omega) (by omega) (fun c_9 => ?_) (fun c_9 => ?_)
      ·
        refine x_iload_n ho 1 d_LE_bits_28 rfl ?_
        refine x_iret ho hr d_LE_bits_29 ?_
        rw [tk_all (by omega)] at hb; subst hb; exact ⟨rfl, bitL_16 h_w⟩
      ·
        refine x_iload_n ho 1 d_LE_bits_12 rfl ?_
        refine x_iconst ho d_LE_bits_13 ?_
        refine x_aload_n ho 2 d_LE_bits_14 rfl ?_
        refine x_iload_n ho 0 d_LE_bits_15 rfl ?_
        refine x_callV (rest := [zV 1, zV b]) ho d_LE_bits_16 yv_LE_letterAt g_343 g_344 g_342 (c_LE_letterAt M.2.1 D o n L i (by omega)) rfl rfl ⟨Nat.le_of_ble_eq_true rfl, Nat.le_of_ble_eq_true rfl⟩ ⟨Nat.le_of_ble_eq_true rfl, Nat.le_of_ble_eq_true rfl⟩ rfl rfl (Nat.le_of_ble_eq_true rfl) hL.1 rfl rfl hL fr_none' (x_rd (fun v_1 hv_1 => ?_))
        obtain ⟨rfl, hr_3⟩ := hv_1
        show X _ _ _ _ _ _ _ _ _ [zV (lat L i), zV 1, zV b] _
        refine x_eqI (b := gA L i) (by exact lat_in (by omega) (by omega)) ?_
        have hg := gA_r h_w i
        have hs := sh_16 hg.1 hg.2
        have hb16 := bitL_16 (wf_tk h_w i)
        rw [← hb] at hb16
        refine x_shl1 ho d_LE_bits_19 hg ?_
        refine x_or16 ho d_LE_bits_20 hb16 hs ?_
        refine x_istore_n (L' := [(1, zV (orI b (sh (gA L i)))), (2, zV i), (0, .ref o)]) ho d_LE_bits_21 (by decide) rfl ?_
        refine x_iinc (L' := [(2, zV (i + 1)), (1, zV (orI b (sh (gA L i)))), (0, .ref o)]) ho 1 d_LE_bits_22 rfl rfl (by decide) rfl ?_
        refine x_goto (tgt := 4) ho d_LE_bits_25 (by decide) ?_
        exact ih_4 (i + 1) (orI b (sh (gA L i))) (by omega) (by rw [tk_succ (by omega) (by omega), bitL_snoc, ← hb]) (by omega)
  exact loop_4 _ 0 0 (by omega) (by rw [tk_0]; rfl) (Nat.lt_succ_self _)
def q_LE_countOf (D : GG) (o : Nat) (n : Nat) (L : List Int) (z : Int) : Option Value → Heap → Prop := fun v0 H => v0 = some (zV (cn L z)) ∧ (0 ≤ cn L z ∧ cn L z ≤ (L.length : Int))
theorem yv_LE_countOf : Yv y_LE_countOf b_LE_countOf 4 (Option.some FieldType.int) 1 := ⟨g_414, g_56, by decide, by decide +kernel⟩
set_option maxHeartbeats 4000000 in
set_option maxRecDepth 100000 in
theorem c_LE_countOf (l0 : Launch) (D : GG) (o : Nat) (n : Nat) (L : List Int) (z : Int) (hz : -2147483648 ≤ z ∧ z ≤ 2147483647) : Ct l0 D y_LE_countOf b_LE_countOf 4 (Option.some FieldType.int) ({ frames := 1, cells := 0, slots := 0, locals := 21 } : Room) [.ref o, zV z] (fun H => isL D H o n L) nA 0 0 (q_LE_countOf D o n L z) := by
  refine Ct.of (L := [(0, .ref o), (1, zV z)]) (by decide) (Nat.le_of_ble_eq_true rfl) rfl (fun M H ho hr hnm hH hpre => ?_)
  have hL := hpre
  have h_n := hL.b
  have h_w := hL.w
  refine x_iconst ho d_LE_countOf_0 ?_
  refine x_istore_n (L' := [(2, zV 0), (0, .ref o), (1, zV z)]) ho d_LE_countOf_1 (by decide) rfl ?_
  refine x_iconst ho d_LE_countOf_2 ?_
  refine x_istore_n (L' := [(3, zV 0), (2, zV 0), (0, .ref o), (1, zV z)]) ho d_LE_countOf_3 (by decide) rfl ?_
  have loop_4 : ∀ (kk : Nat) (i : Int) (t : Int) (i0 : 0 ≤ i ∧ i ≤ (L.length : Int)) (ht : t = cn (tk L i) z), ((L.length : Int) - i).toNat < kk → X M ({ frames := 1, cells := 0, slots := 0, locals := 21 } : Room) 4 nA 0 0 (Qof M nA (q_LE_countOf D o n L z) 0 0) 4 [(3, zV i), (2, zV t), (0, .ref o), (1, zV z)] [] H := by
    intro kk
    induction kk with
    | zero => intro i t i0 ht hk; exact absurd hk (Nat.not_lt_zero _)
    | succ kk ih_4 =>
      intro i t i0 ht hk_4
      refine x_iload_n ho 0 d_LE_countOf_4 rfl ?_
      refine x_aload_n ho 2 d_LE_countOf_5 rfl ?_
      refine x_get 1 ho d_LE_countOf_6 cl_LE (by decide) g_98 hL.1 rfl ?_
      refine x_icmp_ge (tgt := 30) ho d_LE_countOf_9 (by decide) (by omega) (by omega) (fun c_9 => ?_) (fun c_9 => ?_)
      ·
        refine x_iload_n ho 1 d_LE_countOf_30 rfl ?_
        refine x_iret ho hr d_LE_countOf_31 ?_
        rw [tk_all (by omega)] at ht; subst ht; exact ⟨rfl, cn_r L z⟩
      ·
        refine x_aload_n ho 2 d_LE_countOf_12 rfl ?_
        refine x_iload_n ho 0 d_LE_countOf_13 rfl ?_
        refine x_callV (rest := []) ho d_LE_countOf_14 yv_LE_letterAt g_343 g_344 g_342 (c_LE_letterAt M.2.1 D o n L i (by omega)) rfl rfl ⟨Nat.le_of_ble_eq_true rfl, Nat.le_of_ble_eq_true rfl⟩ ⟨Nat.le_of_ble_eq_true rfl, Nat.le_of_ble_eq_true rfl⟩ rfl rfl (Nat.le_of_ble_eq_true rfl) hL.1 rfl rfl hL fr_none' (x_rd (fun v_1 hv_1 => ?_))
        obtain ⟨rfl, hr_3⟩ := hv_1
        show X _ _ _ _ _ _ _ _ _ [zV (lat L i)] _
        refine x_eqI (b := gA L i) (by exact lat_in (by omega) (by omega)) ?_
        have hg := gA_r h_w i
        refine x_iload_n ho 3 d_LE_countOf_17 rfl ?_
        refine x_icmp_ne (tgt := 24) ho d_LE_countOf_18 (by decide) (by omega) (by omega) (fun c_18 => ?_) (fun c_18 => ?_)
        ·
          refine x_iinc (L' := [(3, zV (i + 1)), (2, zV t), (0, .ref o), (1, zV z)]) ho 0 d_LE_countOf_24 rfl rfl (by decide) rfl ?_
          refine x_goto (tgt := 4) ho d_LE_countOf_27 (by decide) ?_
          exact ih_4 (i + 1) t (by omega) (by rw [tk_succ (by omega) (by omega), cn_snoc, ← ht]; first | rw [if_pos c_18] | (rw [if_neg c_18]; omega)) (by omega)
        ·
          refine x_iinc (L' := [(2, zV (t + 1)), (3, zV i), (0, .ref o), (1, zV z)]) ho 1 d_LE_countOf_21 rfl rfl (by decide) rfl ?_
          refine x_iinc (L' := [(3, zV (i + 1)), (2, zV (t + 1)), (0, .ref o), (1, zV z)]) ho 1 d_LE_countOf_24 rfl rfl (by decide) rfl ?_
          refine x_goto (tgt := 4) ho d_LE_countOf_27 (by decide) ?_
          exact ih_4 (i + 1) (t + 1) (by omega) (by rw [tk_succ (by omega) (by omega), cn_snoc, ← ht]; first | rw [if_pos c_18] | (rw [if_neg c_18]; omega)) (by omega)
  exact loop_4 _ 0 0 (by omega) (by rw [tk_0]; rfl) (Nat.lt_succ_self _)
def q_LE_exchange (D : GG) (o : Nat) (n : Nat) (L : List Int) (a : Int) (b : Int) : Option Value → Heap → Prop := fun v0 H => v0 = none ∧ isL D H o n (L.map (sw a b))
theorem yv_LE_exchange : Yv y_LE_exchange b_LE_exchange 4 (Option.none : Option FieldType) 2 := ⟨g_422, g_56, by decide, by decide +kernel⟩
set_option maxHeartbeats 4000000 in
set_option maxRecDepth 100000 in
theorem c_LE_exchange (l0 : Launch) (D : GG) (o : Nat) (n : Nat) (L : List Int) (a : Int) (b : Int) (ha : 0 ≤ a ∧ a < 4) (hb : 0 ≤ b ∧ b < 4) : Ct l0 D y_LE_exchange b_LE_exchange 4 (Option.none : Option FieldType) ({ frames := 0, cells := 0, slots := 0, locals := 0 } : Room) [.ref o, zV a, zV b] (fun H => isL D H o n L) (rA o (o + 2)) 0 0 (q_LE_exchange D o n L a b) := by
  refine Ct.of (L := [(0, .ref o), (1, zV a), (2, zV b)]) (by decide) (Nat.le_of_ble_eq_true rfl) rfl (fun M H ho hr hnm hH hpre => ?_)
  have hL := hpre
  obtain ⟨h_o, ⟨f, h_a, h_f⟩, h_n, h_3, h_w⟩ := id hL
  refine x_iconst ho d_LE_exchange_0 ?_
  refine x_istore_n (L' := [(3, zV 0), (0, .ref o), (1, zV a), (2, zV b)]) ho d_LE_exchange_1 (by decide) rfl ?_
  have loop_2 : ∀ (kk : Nat) (i : Int) (g : Int → Int) (H_1 : Heap) (k_o : At D H_1 o (oO 2 [.ref (o + 1), zV ((L.length : Int))])) (k_a : At D H_1 (o + 1) (oI D n g)) (i0 : 0 ≤ i ∧ i ≤ (L.length : Int)) (hg : ∀ j : Int, 0 ≤ j → j < (L.length : Int) → g j = if j < i then sw a b (gA L j) else gA L j), ((L.length : Int) - i).toNat < kk → X M ({ frames := 0, cells := 0, slots := 0, locals := 0 } : Room) 4 (rA o (o + 2)) 0 0 (Qof M (rA o (o + 2)) (q_LE_exchange D o n L a b) 0 0) 2 [(3, zV i), (0, .ref o), (1, zV a), (2, zV b)] [] H_1 := by
    intro kk
    induction kk with
    | zero => intro i g H_1 k_o k_a i0 hg hk; exact absurd hk (Nat.not_lt_zero _)
    | succ kk ih_2 =>
      intro i g H_1 k_o k_a i0 hg hk_2
      refine x_iload_n ho 0 d_LE_exchange_2 rfl ?_
      refine x_aload_n ho 1 d_LE_exchange_3 rfl ?_
      refine x_get 1 ho d_LE_exchange_4 cl_LE (by decide) g_98 k_o rfl ?_
      refine x_icmp_ge (tgt := 62) ho d_LE_exchange_7 (by decide) (by omega) (by omega) (fun c_7 => ?_) (fun c_7 => ?_)
      ·
        refine x_vret ho hr d_LE_exchange_62 ?_
        exact ⟨rfl, isL_mk k_o k_a (by simp) (fun j h0 h1 => by rw [List.length_map] at h1; rw [hg j h0 h1, if_pos (by omega), gA_map h0 h1]) (by simp; exact h_n) h_3 (wf_map (fun x hx => sw_r ha hb (h_w x hx)))⟩
      ·
        refine x_iload_n ho 0 d_LE_exchange_10 rfl ?_
        refine x_aload_n ho 1 d_LE_exchange_11 rfl ?_
        refine x_get 0 ho d_LE_exchange_12 cl_LE (by decide) g_97 k_o rfl ?_
        refine x_alen ho d_LE_exchange_15 k_a ?_
        refine x_icmp_ge (tgt := 62) ho d_LE_exchange_16 (by decide) (by omega) (by omega) (fun c_16 => ?_) (fun c_16 => ?_)
        ·
          refine x_vret ho hr d_LE_exchange_62 ?_
          exact absurd c_16 (by omega)
        ·
          refine x_aload_n ho 1 d_LE_exchange_19 rfl ?_
          refine x_get 0 ho d_LE_exchange_20 cl_LE (by decide) g_97 k_o rfl ?_
          refine x_iload_n ho 0 d_LE_exchange_23 rfl ?_
          refine x_iald ho d_LE_exchange_24 k_a (by omega) (by omega) (by omega) ?_
          refine x_eqI (b := gA L i) (by rw [hg i (by omega) (by omega), if_neg (by omega)]) ?_
          have hw := gA_r h_w i
          refine x_iload_n ho 2 d_LE_exchange_25 rfl ?_
          refine x_icmp_ne (tgt := 39) ho d_LE_exchange_26 (by decide) (by omega) (by omega) (fun c_26 => ?_) (fun c_26 => ?_)
          ·
            refine x_aload_n ho 1 d_LE_exchange_39 rfl ?_
            refine x_get 0 ho d_LE_exchange_40 cl_LE (by decide) g_97 k_o rfl ?_
            refine x_iload_n ho 0 d_LE_exchange_43 rfl ?_
            refine x_iald ho d_LE_exchange_44 k_a (by omega) (by omega) (by omega) ?_
            refine x_eqI (b := gA L i) (by rw [hg i (by omega) (by omega), if_neg (by omega)]) ?_
            refine x_iload_n ho 3 d_LE_exchange_45 rfl ?_
            refine x_icmp_ne (tgt := 56) ho d_LE_exchange_46 (by decide) (by omega) (by omega) (fun c_46 => ?_) (fun c_46 => ?_)
            ·
              refine x_iinc (L' := [(3, zV (i + 1)), (0, .ref o), (1, zV a), (2, zV b)]) ho 0 d_LE_exchange_56 rfl rfl (by decide) rfl ?_
              refine x_goto (tgt := 2) ho d_LE_exchange_59 (by decide) ?_
              exact ih_2 (i + 1) g H_1 k_o k_a (by omega) (by
                  intro j h0 h1
                  rw [hg j h0 h1]
                  by_cases h : j = i
                  · subst h; rw [if_neg (by omega), if_pos (by omega)]; unfold sw; rw [if_neg c_26, if_neg c_46]
                  · by_cases h2 : j < i
                    · rw [if_pos h2, if_pos (by omega)]
                    · rw [if_neg h2, if_neg (by omega)]) (by omega)
            ·
              refine x_aload_n ho 1 d_LE_exchange_49 rfl ?_
              refine x_get 0 ho d_LE_exchange_50 cl_LE (by decide) g_97 k_o rfl ?_
              refine x_iload_n ho 0 d_LE_exchange_53 rfl ?_
              refine x_iload_n ho 2 d_LE_exchange_54 rfl ?_
              refine x_iast ho d_LE_exchange_55 k_a (by omega) (by omega) (by omega) (rA_in (by omega) (by omega)) (fun H_2 p_3 z_4 q_5 => ?_)
              have k_6 := k_o.kept (q_5 _ (by omega))
              refine x_iinc (L' := [(3, zV (i + 1)), (0, .ref o), (1, zV a), (2, zV b)]) ho 0 d_LE_exchange_56 rfl rfl (by decide) rfl ?_
              refine x_goto (tgt := 2) ho d_LE_exchange_59 (by decide) ?_
              exact ih_2 (i + 1) (zU g i a) H_2 k_6 p_3 (by omega) (by
                  intro j h0 h1
                  by_cases h : j = i
                  · subst h; rw [zU_s, if_pos (by omega)]; unfold sw; rw [if_neg c_26, if_pos c_46]
                  · rw [zU_n _ _ h, hg j h0 h1]
                    by_cases h2 : j < i
                    · rw [if_pos h2, if_pos (by omega)]
                    · rw [if_neg h2, if_neg (by omega)]) (by omega)
          ·
            refine x_aload_n ho 1 d_LE_exchange_29 rfl ?_
            refine x_get 0 ho d_LE_exchange_30 cl_LE (by decide) g_97 k_o rfl ?_
            refine x_iload_n ho 0 d_LE_exchange_33 rfl ?_
            refine x_iload_n ho 3 d_LE_exchange_34 rfl ?_
            refine x_iast ho d_LE_exchange_35 k_a (by omega) (by omega) (by omega) (rA_in (by omega) (by omega)) (fun H_7 p_8 z_9 q_10 => ?_)
            have k_11 := k_o.kept (q_10 _ (by omega))
            refine x_goto (tgt := 56) ho d_LE_exchange_36 (by decide) ?_
            refine x_iinc (L' := [(3, zV (i + 1)), (0, .ref o), (1, zV a), (2, zV b)]) ho 0 d_LE_exchange_56 rfl rfl (by decide) rfl ?_
            refine x_goto (tgt := 2) ho d_LE_exchange_59 (by decide) ?_
            exact ih_2 (i + 1) (zU g i b) H_7 k_11 p_8 (by omega) (by
                intro j h0 h1
                by_cases h : j = i
                · subst h; rw [zU_s, if_pos (by omega)]; unfold sw; rw [if_pos c_26]
                · rw [zU_n _ _ h, hg j h0 h1]
                  by_cases h2 : j < i
                  · rw [if_pos h2, if_pos (by omega)]
                  · rw [if_neg h2, if_neg (by omega)]) (by omega)
  exact loop_2 _ 0 f H h_o h_a (by omega) (by intro j h0 h1; rw [if_neg (by omega)]; exact h_f j h0 h1) (Nat.lt_succ_self _)
def q_LE_rotate (D : GG) (o : Nat) (n : Nat) (L : List Int) (P : Prop) : Option Value → Heap → Prop := fun v0 H => v0 = none ∧ isL D H o n (rot P L)
theorem yv_LE_rotate : Yv y_LE_rotate b_LE_rotate 3 (Option.none : Option FieldType) 1 := ⟨g_405, g_56, by decide, by decide +kernel⟩
set_option maxHeartbeats 4000000 in
set_option maxRecDepth 100000 in
theorem c_LE_rotate (l0 : Launch) (D : GG) (o : Nat) (n : Nat) (L : List Int) (P : Prop)  : Ct l0 D y_LE_rotate b_LE_rotate 3 (Option.none : Option FieldType) ({ frames := 1, cells := 0, slots := 0, locals := 60 } : Room) [.ref o, zV (bI P)] (fun H => isL D H o n L) (rA o (o + 2)) 0 0 (q_LE_rotate D o n L P) := by
  refine Ct.of (L := [(0, .ref o), (1, zV (bI P))]) (by decide) (Nat.le_of_ble_eq_true rfl) rfl (fun M H ho hr hnm hH hpre => ?_)
  have hL := hpre
  obtain ⟨h_o, ⟨f, h_a, h_f⟩, h_n, h_3, h_w⟩ := id hL
  refine x_aload_n ho 0 d_LE_rotate_0 rfl ?_
  refine x_get 1 ho d_LE_rotate_1 cl_LE (by decide) g_98 h_o rfl ?_
  refine x_iconst ho d_LE_rotate_4 ?_
  refine x_icmp_lt (tgt := 20) ho d_LE_rotate_5 (by decide) (by omega) (by omega) (fun c_5 => ?_) (fun c_5 => ?_)
  ·
    refine x_vret ho hr d_LE_rotate_20 ?_
    have h2 : rot P L = L := by rcases Classical.em P with h | h; rw [rot_t h]; exact (rot_one (by omega)).2; rw [rot_f h]; exact (rot_one (by omega)).1
    exact ⟨rfl, by rw [h2]; exact hL⟩
  ·
    refine x_aload_n ho 0 d_LE_rotate_8 rfl ?_
    refine x_get 1 ho d_LE_rotate_9 cl_LE (by decide) g_98 h_o rfl ?_
    refine x_aload_n ho 0 d_LE_rotate_12 rfl ?_
    refine x_get 0 ho d_LE_rotate_13 cl_LE (by decide) g_97 h_o rfl ?_
    refine x_alen ho d_LE_rotate_16 h_a ?_
    refine x_icmp_le (tgt := 21) ho d_LE_rotate_17 (by decide) (by omega) (by omega) (fun c_17 => ?_) (fun c_17 => ?_)
    ·
      refine x_iload_n ho 1 d_LE_rotate_21 rfl ?_
      refine x_if_eqB (tgt := 66) ho d_LE_rotate_22 (by decide) (fun c_22 => ?_) (fun c_22 => ?_)
      ·
        refine x_aload_n ho 0 d_LE_rotate_66 rfl ?_
        refine x_get 0 ho d_LE_rotate_67 cl_LE (by decide) g_97 h_o rfl ?_
        refine x_iconst ho d_LE_rotate_70 ?_
        refine x_iald ho d_LE_rotate_71 h_a (by omega) (by omega) (by omega) ?_
        refine x_eqI (b := gA L 0) (by exact h_f _ (by omega) (by omega)) ?_
        refine x_istore_n (L' := [(2, zV (gA L 0)), (0, .ref o), (1, zV (bI P))]) ho d_LE_rotate_72 (by decide) rfl ?_
        refine x_aload_n ho 1 d_LE_rotate_73 rfl ?_
        refine x_get 0 ho d_LE_rotate_74 cl_LE (by decide) g_97 h_o rfl ?_
        refine x_iconst ho d_LE_rotate_77 ?_
        refine x_aload_n ho 1 d_LE_rotate_78 rfl ?_
        refine x_get 0 ho d_LE_rotate_79 cl_LE (by decide) g_97 h_o rfl ?_
        refine x_iconst ho d_LE_rotate_82 ?_
        refine x_aload_n ho 1 d_LE_rotate_83 rfl ?_
        refine x_get 1 ho d_LE_rotate_84 cl_LE (by decide) g_98 h_o rfl ?_
        refine x_iconst ho d_LE_rotate_87 ?_
        refine x_isub ho d_LE_rotate_88 ?_
        refine x_copy ho d_LE_rotate_89 g_304 h_a h_a (by omega) (by omega) (by omega) (by omega) (by omega) (by omega) (by omega) (Nat.le_of_ble_eq_true rfl) (Nat.le_of_ble_eq_true rfl) (rA_in (by omega) (by omega)) (fun H_1 p_2 z_3 q_4 => ?_)
        have k_5 := h_o.kept (q_4 _ (by omega))
        refine x_aload_n ho 1 d_LE_rotate_92 rfl ?_
        refine x_get 0 ho d_LE_rotate_93 cl_LE (by decide) g_97 k_5 rfl ?_
        refine x_aload_n ho 1 d_LE_rotate_96 rfl ?_
        refine x_get 1 ho d_LE_rotate_97 cl_LE (by decide) g_98 k_5 rfl ?_
        refine x_iconst ho d_LE_rotate_100 ?_
        refine x_isub ho d_LE_rotate_101 ?_
        refine x_iload_n ho 0 d_LE_rotate_102 rfl ?_
        refine x_iast ho d_LE_rotate_103 p_2 (by omega) (by omega) (by omega) (rA_in (by omega) (by omega)) (fun H_6 p_7 z_8 q_9 => ?_)
        have k_10 := k_5.kept (q_9 _ (by omega))
        refine x_vret ho hr d_LE_rotate_104 ?_
        refine ⟨rfl, ?_⟩
        rw [rot_f c_22]
        refine isL_mk k_10 p_7 (by rw [rot1_len]) (fun j h0 h1 => ?_) (by rw [rot1_len]; exact h_n) h_3 (rot1_wf h_w)
        rw [rot1_len] at h1
        rw [rot1_g h0 h1]
        by_cases h : j = (L.length : Int) - 1
        · rw [if_pos h, h, zU_s]
        · rw [if_neg h, zU_n _ _ h, zC_in _ _ (by omega) (by omega), show (1 : Int) + (j - 0) = j + 1 by omega]; exact h_f _ (by omega) (by omega)
      ·
        refine x_aload_n ho 0 d_LE_rotate_25 rfl ?_
        refine x_get 0 ho d_LE_rotate_26 cl_LE (by decide) g_97 h_o rfl ?_
        refine x_aload_n ho 0 d_LE_rotate_29 rfl ?_
        refine x_get 1 ho d_LE_rotate_30 cl_LE (by decide) g_98 h_o rfl ?_
        refine x_iconst ho d_LE_rotate_33 ?_
        refine x_isub ho d_LE_rotate_34 ?_
        refine x_iald ho d_LE_rotate_35 h_a (by omega) (by omega) (by omega) ?_
        refine x_eqI (b := gA L (((L.length : Int)) - 1)) (by exact h_f _ (by omega) (by omega)) ?_
        refine x_istore_n (L' := [(2, zV (gA L (((L.length : Int)) - 1))), (0, .ref o), (1, zV (bI P))]) ho d_LE_rotate_36 (by decide) rfl ?_
        refine x_aload_n ho 1 d_LE_rotate_37 rfl ?_
        refine x_get 0 ho d_LE_rotate_38 cl_LE (by decide) g_97 h_o rfl ?_
        refine x_iconst ho d_LE_rotate_41 ?_
        refine x_aload_n ho 1 d_LE_rotate_42 rfl ?_
        refine x_get 0 ho d_LE_rotate_43 cl_LE (by decide) g_97 h_o rfl ?_
        refine x_iconst ho d_LE_rotate_46 ?_
        refine x_aload_n ho 1 d_LE_rotate_47 rfl ?_
        refine x_get 1 ho d_LE_rotate_48 cl_LE (by decide) g_98 h_o rfl ?_
        refine x_iconst ho d_LE_rotate_51 ?_
        refine x_isub ho d_LE_rotate_52 ?_
        refine x_copy ho d_LE_rotate_53 g_304 h_a h_a (by omega) (by omega) (by omega) (by omega) (by omega) (by omega) (by omega) (Nat.le_of_ble_eq_true rfl) (Nat.le_of_ble_eq_true rfl) (rA_in (by omega) (by omega)) (fun H_11 p_12 z_13 q_14 => ?_)
        have k_15 := h_o.kept (q_14 _ (by omega))
        refine x_aload_n ho 1 d_LE_rotate_56 rfl ?_
        refine x_get 0 ho d_LE_rotate_57 cl_LE (by decide) g_97 k_15 rfl ?_
        refine x_iconst ho d_LE_rotate_60 ?_
        refine x_iload_n ho 0 d_LE_rotate_61 rfl ?_
        refine x_iast ho d_LE_rotate_62 p_12 (by omega) (by omega) (by omega) (rA_in (by omega) (by omega)) (fun H_16 p_17 z_18 q_19 => ?_)
        have k_20 := k_15.kept (q_19 _ (by omega))
        refine x_goto (tgt := 104) ho d_LE_rotate_63 (by decide) ?_
        refine x_vret ho hr d_LE_rotate_104 ?_
        refine ⟨rfl, ?_⟩
        rw [rot_t c_22]
        refine isL_mk k_20 p_17 (by rw [rot2_len]) (fun j h0 h1 => ?_) (by rw [rot2_len]; exact h_n) h_3 (rot2_wf h_w)
        rw [rot2_len] at h1
        rw [rot2_g h0 h1]
        by_cases h : j = 0
        · rw [if_pos h, h, zU_s]
        · rw [if_neg h, zU_n _ _ h, zC_in _ _ (by omega) (by omega), show (0 : Int) + (j - 1) = j - 1 by omega]; exact h_f _ (by omega) (by omega)
    ·
      refine x_vret ho hr d_LE_rotate_20 ?_
      exact absurd c_17 (by omega)
