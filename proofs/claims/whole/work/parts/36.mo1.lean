def q_MO_in (D : GG) (a : Int) (lo : Int) (hi : Int) : Option Value → Heap → Prop := fun v0 H => (v0 = some (zV (bI (lo ≤ a ∧ a ≤ hi))))
theorem yv_MO_in : Yv y_MO_in b_MO_in 3 (Option.some FieldType.boolean) 3 := ⟨g_824, g_65, by decide, by decide +kernel⟩
set_option maxHeartbeats 4000000 in
set_option maxRecDepth 100000 in
theorem c_MO_in (l0 : Launch) (D : GG) (a : Int) (lo : Int) (hi : Int) (ha : -2147483648 ≤ a ∧ a ≤ 2147483647) (hlo : -2147483648 ≤ lo ∧ lo ≤ 2147483647) (hhi : -2147483648 ≤ hi ∧ hi ≤ 2147483647) : Ct l0 D y_MO_in b_MO_in 3 (Option.some FieldType.boolean) ({ frames := 0, cells := 0, slots := 0, locals := 0 } : Room) [zV a, zV lo, zV hi] (fun H => True) nA 0 0 (q_MO_in D a lo hi) := by
  refine Ct.of (L := [(0, zV a), (1, zV lo), (2, zV hi)]) (by decide) (Nat.le_of_ble_eq_true rfl) rfl (fun M H ho hr hnm hH hpre => ?_)
  refine x_iload_n ho 0 d_MO_in_0 rfl ?_
  refine x_iload_n ho 1 d_MO_in_1 rfl ?_
  refine x_icmp_lt (tgt := 14) ho d_MO_in_2 (by decide) (by omega) (by omega) (fun c_2 => ?_) (fun c_2 => ?_)
  ·
    refine x_iconst ho d_MO_in_14 ?_
    refine x_zret ho hr (Or.inl rfl) d_MO_in_15 ?_
    exact rF (by omega)
  ·
    refine x_iload_n ho 0 d_MO_in_5 rfl ?_
    refine x_iload_n ho 2 d_MO_in_6 rfl ?_
    refine x_icmp_gt (tgt := 14) ho d_MO_in_7 (by decide) (by omega) (by omega) (fun c_7 => ?_) (fun c_7 => ?_)
    ·
      refine x_iconst ho d_MO_in_14 ?_
      refine x_zret ho hr (Or.inl rfl) d_MO_in_15 ?_
      exact rF (by omega)
    ·
      refine x_iconst ho d_MO_in_10 ?_
      refine x_goto (tgt := 15) ho d_MO_in_11 (by decide) ?_
      refine x_zret ho hr (Or.inr rfl) d_MO_in_15 ?_
      exact rT (by omega)
def q_MO_no (D : GG) (a : Int) : Option Value → Heap → Prop := fun v0 H => v0 = some (zV (bI (¬ isA a)))
theorem yv_MO_no : Yv y_MO_no b_MO_no 1 (Option.some FieldType.boolean) 1 := ⟨g_857, g_65, by decide, by decide +kernel⟩
set_option maxHeartbeats 4000000 in
set_option maxRecDepth 100000 in
theorem c_MO_no (l0 : Launch) (D : GG) (a : Int) (ha : -2147483648 ≤ a ∧ a ≤ 2147483647) : Ct l0 D y_MO_no b_MO_no 1 (Option.some FieldType.boolean) ({ frames := 1, cells := 0, slots := 0, locals := 22 } : Room) [zV a] (fun H => True) nA 0 0 (q_MO_no D a) := by
  refine Ct.of (L := [(0, zV a)]) (by decide) (Nat.le_of_ble_eq_true rfl) rfl (fun M H ho hr hnm hH hpre => ?_)
  refine x_iload_n ho 0 d_MO_no_0 rfl ?_
  refine x_iconst ho d_MO_no_1 ?_
  refine x_iconst ho d_MO_no_2 ?_
  refine x_callS (rest := []) ho d_MO_no_3 yv_MO_in g_823 g_822 (c_MO_in M.2.1 D a 0 3 (by omega) (by omega) (by omega)) rfl rfl ⟨Nat.le_of_ble_eq_true rfl, Nat.le_of_ble_eq_true rfl⟩ ⟨Nat.le_of_ble_eq_true rfl, Nat.le_of_ble_eq_true rfl⟩ rfl rfl (Nat.le_of_ble_eq_true rfl) trivial fr_none' (x_rd (fun v_1 hv_1 => ?_))
  obtain rfl := hv_1
  show X _ _ _ _ _ _ _ _ _ [zV (bI (0 ≤ a ∧ a ≤ 3))] _
  refine x_if_neB (tgt := 13) ho d_MO_no_6 (by decide) (fun c_6 => ?_) (fun c_6 => ?_)
  ·
    refine x_iconst ho d_MO_no_13 ?_
    refine x_zret ho hr (Or.inl rfl) d_MO_no_14 ?_
    exact rF (by exact fun q => q (show 0 ≤ a ∧ a < 4 by omega))
  ·
    refine x_iconst ho d_MO_no_9 ?_
    refine x_goto (tgt := 14) ho d_MO_no_10 (by decide) ?_
    refine x_zret ho hr (Or.inr rfl) d_MO_no_14 ?_
    exact rT (by exact fun q : 0 ≤ a ∧ a < 4 => c_6 (by omega))
def q_MO_swapped (D : GG) (x : Int) (a : Int) (b : Int) : Option Value → Heap → Prop := fun v0 H => v0 = some (zV (sw a b x))
theorem yv_MO_swapped : Yv y_MO_swapped b_MO_swapped 3 (Option.some FieldType.int) 3 := ⟨g_860, g_65, by decide, by decide +kernel⟩
set_option maxHeartbeats 4000000 in
set_option maxRecDepth 100000 in
theorem c_MO_swapped (l0 : Launch) (D : GG) (x : Int) (a : Int) (b : Int) (hx : -2147483648 ≤ x ∧ x ≤ 2147483647) (ha : -2147483648 ≤ a ∧ a ≤ 2147483647) (hb : -2147483648 ≤ b ∧ b ≤ 2147483647) : Ct l0 D y_MO_swapped b_MO_swapped 3 (Option.some FieldType.int) ({ frames := 0, cells := 0, slots := 0, locals := 0 } : Room) [zV x, zV a, zV b] (fun H => True) nA 0 0 (q_MO_swapped D x a b) := by
  refine Ct.of (L := [(0, zV x), (1, zV a), (2, zV b)]) (by decide) (Nat.le_of_ble_eq_true rfl) rfl (fun M H ho hr hnm hH hpre => ?_)
  refine x_iload_n ho 0 d_MO_swapped_0 rfl ?_
  refine x_iload_n ho 1 d_MO_swapped_1 rfl ?_
  refine x_icmp_ne (tgt := 9) ho d_MO_swapped_2 (by decide) (by omega) (by omega) (fun c_2 => ?_) (fun c_2 => ?_)
  ·
    refine x_iload_n ho 0 d_MO_swapped_9 rfl ?_
    refine x_iload_n ho 2 d_MO_swapped_10 rfl ?_
    refine x_icmp_ne (tgt := 18) ho d_MO_swapped_11 (by decide) (by omega) (by omega) (fun c_11 => ?_) (fun c_11 => ?_)
    ·
      refine x_iload_n ho 0 d_MO_swapped_18 rfl ?_
      refine x_iret ho hr d_MO_swapped_19 ?_
      exact rI (by unfold sw; split <;> (first | omega | (split <;> omega)))
    ·
      refine x_iload_n ho 1 d_MO_swapped_14 rfl ?_
      refine x_goto (tgt := 19) ho d_MO_swapped_15 (by decide) ?_
      refine x_iret ho hr d_MO_swapped_19 ?_
      exact rI (by unfold sw; split <;> (first | omega | (split <;> omega)))
  ·
    refine x_iload_n ho 2 d_MO_swapped_5 rfl ?_
    refine x_goto (tgt := 19) ho d_MO_swapped_6 (by decide) ?_
    refine x_iret ho hr d_MO_swapped_19 ?_
    exact rI (by unfold sw; split <;> (first | omega | (split <;> omega)))
def q_MO_size (D : GG) (m : Nat) (kp : Int) (fl : Int) (fo : Int) (di : Int) (ty : Int) (az : Int) (v : SV) (a : Int) : Option Value → Heap → Prop := fun v0 H => v0 = some (zV (((v.1 a).length : Int))) ∧ (1 ≤ ((v.1 a).length : Int) ∧ ((v.1 a).length : Int) ≤ 8)
theorem yv_MO_size : Yv y_MO_size b_MO_size 2 (Option.some FieldType.int) 1 := ⟨g_830, g_65, by decide, by decide +kernel⟩
set_option maxHeartbeats 4000000 in
set_option maxRecDepth 100000 in
theorem c_MO_size (l0 : Launch) (D : GG) (m : Nat) (kp : Int) (fl : Int) (fo : Int) (di : Int) (ty : Int) (az : Int) (v : SV) (a : Int) (ha : 0 ≤ a ∧ a < 4) : Ct l0 D y_MO_size b_MO_size 2 (Option.some FieldType.int) ({ frames := 0, cells := 0, slots := 0, locals := 0 } : Room) [.ref m, zV a] (fun H => At D H m (oO 11 [.ref (m + 1), .ref (m + 2), zV kp, .ref (m + 3), zV fl, .ref (m + 4), .ref (m + 5), .ref (m + 6), zV fo, .ref (m + 7), zV di, zV ty, .ref (m + 8), zV az, .ref (m + 9), .ref (m + 10), .ref (m + 11)]) ∧ isN D H (m + 1) v) nA 0 0 (q_MO_size D m kp fl fo di ty az v a) := by
  refine Ct.of (L := [(0, .ref m), (1, zV a)]) (by decide) (Nat.le_of_ble_eq_true rfl) rfl (fun M H ho hr hnm hH hpre => ?_)
  obtain ⟨t_o, t_n⟩ := hpre
  obtain ⟨n_f, n_a, n_r, n_o⟩ := id t_n
  have n_1 := n_o.1
  have n_2 := n_o.2.1
  have n_3 := n_o.2.2
  refine x_aload_n ho 0 d_MO_size_0 rfl ?_
  refine x_get 0 ho d_MO_size_1 cl_MO (by decide) g_757 t_o rfl ?_
  refine x_bipush (z := 9) ho d_MO_size_4 (by decide) ?_
  refine x_iload_n ho 1 d_MO_size_6 rfl ?_
  refine x_imul ho d_MO_size_7 ?_
  refine x_iald ho d_MO_size_8 n_a (by omega) (by omega) (by omega) ?_
  refine x_eqI (b := ((v.1 a).length : Int)) (by exact (n_r.1 a ha.1 ha.2).1) ?_
  refine x_iret ho hr d_MO_size_9 ?_
  exact ⟨rfl, (by have := n_1 a ha.1 ha.2; omega)⟩
def q_MO_sign (D : GG) (m : Nat) (kp : Int) (fl : Int) (fo : Int) (di : Int) (ty : Int) (az : Int) (v : SV) (a : Int) (k : Int) : Option Value → Heap → Prop := fun v0 H => v0 = some (zV (gA (v.1 a) k)) ∧ (0 ≤ gA (v.1 a) k ∧ gA (v.1 a) k < 4)
theorem yv_MO_sign : Yv y_MO_sign b_MO_sign 3 (Option.some FieldType.int) 2 := ⟨g_833, g_65, by decide, by decide +kernel⟩
set_option maxHeartbeats 4000000 in
set_option maxRecDepth 100000 in
theorem c_MO_sign (l0 : Launch) (D : GG) (m : Nat) (kp : Int) (fl : Int) (fo : Int) (di : Int) (ty : Int) (az : Int) (v : SV) (a : Int) (k : Int) (ha : 0 ≤ a ∧ a < 4) (hk : 0 ≤ k ∧ k < ((v.1 a).length : Int)) : Ct l0 D y_MO_sign b_MO_sign 3 (Option.some FieldType.int) ({ frames := 0, cells := 0, slots := 0, locals := 0 } : Room) [.ref m, zV a, zV k] (fun H => At D H m (oO 11 [.ref (m + 1), .ref (m + 2), zV kp, .ref (m + 3), zV fl, .ref (m + 4), .ref (m + 5), .ref (m + 6), zV fo, .ref (m + 7), zV di, zV ty, .ref (m + 8), zV az, .ref (m + 9), .ref (m + 10), .ref (m + 11)]) ∧ isN D H (m + 1) v) nA 0 0 (q_MO_sign D m kp fl fo di ty az v a k) := by
  refine Ct.of (L := [(0, .ref m), (1, zV a), (2, zV k)]) (by decide) (Nat.le_of_ble_eq_true rfl) rfl (fun M H ho hr hnm hH hpre => ?_)
  obtain ⟨t_o, t_n⟩ := hpre
  obtain ⟨n_f, n_a, n_r, n_o⟩ := id t_n
  have n_1 := n_o.1
  have n_2 := n_o.2.1
  have n_3 := n_o.2.2
  refine x_aload_n ho 0 d_MO_sign_0 rfl ?_
  refine x_get 0 ho d_MO_sign_1 cl_MO (by decide) g_757 t_o rfl ?_
  refine x_bipush (z := 9) ho d_MO_sign_4 (by decide) ?_
  refine x_iload_n ho 1 d_MO_sign_6 rfl ?_
  refine x_imul ho d_MO_sign_7 ?_
  refine x_iconst ho d_MO_sign_8 ?_
  refine x_iadd ho d_MO_sign_9 ?_
  refine x_iload_n ho 2 d_MO_sign_10 rfl ?_
  refine x_iadd ho d_MO_sign_11 ?_
  have n_b := n_1 a ha.1 ha.2
  refine x_iald ho d_MO_sign_12 n_a (by omega) (by omega) (by omega) ?_
  refine x_eqI (b := gA (v.1 a) k) (by exact (n_r.1 a ha.1 ha.2).2 k hk.1 hk.2) ?_
  refine x_iret ho hr d_MO_sign_13 ?_
  exact ⟨rfl, (by exact gA_r n_b.2.2 k)⟩
def q_MO_length (D : GG) (m : Nat) (kp : Int) (fl : Int) (fo : Int) (di : Int) (ty : Int) (az : Int) (v : SV) : Option Value → Heap → Prop := fun v0 H => v0 = some (zV ((v.2.1.length : Int))) ∧ (1 ≤ (v.2.1.length : Int) ∧ (v.2.1.length : Int) ≤ 300)
theorem yv_MO_length : Yv y_MO_length b_MO_length 1 (Option.some FieldType.int) 0 := ⟨g_863, g_65, by decide, by decide +kernel⟩
set_option maxHeartbeats 4000000 in
set_option maxRecDepth 100000 in
theorem c_MO_length (l0 : Launch) (D : GG) (m : Nat) (kp : Int) (fl : Int) (fo : Int) (di : Int) (ty : Int) (az : Int) (v : SV)  : Ct l0 D y_MO_length b_MO_length 1 (Option.some FieldType.int) ({ frames := 0, cells := 0, slots := 0, locals := 0 } : Room) [.ref m] (fun H => At D H m (oO 11 [.ref (m + 1), .ref (m + 2), zV kp, .ref (m + 3), zV fl, .ref (m + 4), .ref (m + 5), .ref (m + 6), zV fo, .ref (m + 7), zV di, zV ty, .ref (m + 8), zV az, .ref (m + 9), .ref (m + 10), .ref (m + 11)]) ∧ isN D H (m + 1) v) nA 0 0 (q_MO_length D m kp fl fo di ty az v) := by
  refine Ct.of (L := [(0, .ref m)]) (by decide) (Nat.le_of_ble_eq_true rfl) rfl (fun M H ho hr hnm hH hpre => ?_)
  obtain ⟨t_o, t_n⟩ := hpre
  obtain ⟨n_f, n_a, n_r, n_o⟩ := id t_n
  have n_1 := n_o.1
  have n_2 := n_o.2.1
  have n_3 := n_o.2.2
  refine x_aload_n ho 0 d_MO_length_0 rfl ?_
  refine x_get 0 ho d_MO_length_1 cl_MO (by decide) g_757 t_o rfl ?_
  refine x_bipush (z := 36) ho d_MO_length_4 (by decide) ?_
  refine x_iald ho d_MO_length_6 n_a (by omega) (by omega) (by omega) ?_
  refine x_eqI (b := (v.2.1.length : Int)) (by exact n_r.2.1.1) ?_
  refine x_iret ho hr d_MO_length_7 ?_
  exact ⟨rfl, (by exact ⟨n_2.1, n_2.2.1⟩)⟩
def q_MO_word (D : GG) (m : Nat) (kp : Int) (fl : Int) (fo : Int) (di : Int) (ty : Int) (az : Int) (v : SV) (k : Int) : Option Value → Heap → Prop := fun v0 H => v0 = some (zV (gA v.2.1 k)) ∧ (0 ≤ gA v.2.1 k ∧ gA v.2.1 k < 4)
theorem yv_MO_word : Yv y_MO_word b_MO_word 2 (Option.some FieldType.int) 1 := ⟨g_866, g_65, by decide, by decide +kernel⟩
set_option maxHeartbeats 4000000 in
set_option maxRecDepth 100000 in
theorem c_MO_word (l0 : Launch) (D : GG) (m : Nat) (kp : Int) (fl : Int) (fo : Int) (di : Int) (ty : Int) (az : Int) (v : SV) (k : Int) (hk : 0 ≤ k ∧ k < (v.2.1.length : Int)) : Ct l0 D y_MO_word b_MO_word 2 (Option.some FieldType.int) ({ frames := 0, cells := 0, slots := 0, locals := 0 } : Room) [.ref m, zV k] (fun H => At D H m (oO 11 [.ref (m + 1), .ref (m + 2), zV kp, .ref (m + 3), zV fl, .ref (m + 4), .ref (m + 5), .ref (m + 6), zV fo, .ref (m + 7), zV di, zV ty, .ref (m + 8), zV az, .ref (m + 9), .ref (m + 10), .ref (m + 11)]) ∧ isN D H (m + 1) v) nA 0 0 (q_MO_word D m kp fl fo di ty az v k) := by
  refine Ct.of (L := [(0, .ref m), (1, zV k)]) (by decide) (Nat.le_of_ble_eq_true rfl) rfl (fun M H ho hr hnm hH hpre => ?_)
  obtain ⟨t_o, t_n⟩ := hpre
  obtain ⟨n_f, n_a, n_r, n_o⟩ := id t_n
  have n_1 := n_o.1
  have n_2 := n_o.2.1
  have n_3 := n_o.2.2
  refine x_aload_n ho 0 d_MO_word_0 rfl ?_
  refine x_get 0 ho d_MO_word_1 cl_MO (by decide) g_757 t_o rfl ?_
  refine x_bipush (z := 37) ho d_MO_word_4 (by decide) ?_
  refine x_iload_n ho 1 d_MO_word_6 rfl ?_
  refine x_iadd ho d_MO_word_7 ?_
  refine x_iald ho d_MO_word_8 n_a (by omega) (by omega) (by omega) ?_
  refine x_eqI (b := gA v.2.1 k) (by exact n_r.2.1.2 k hk.1 hk.2) ?_
  refine x_iret ho hr d_MO_word_9 ?_
  exact ⟨rfl, (by exact gA_r n_2.2.2 k)⟩
def q_MO_allSizes (D : GG) (m : Nat) (kp : Int) (fl : Int) (fo : Int) (di : Int) (ty : Int) (az : Int) (v : SV) : Option Value → Heap → Prop := fun v0 H => v0 = some (zV (tot v.1))
theorem yv_MO_allSizes : Yv y_MO_allSizes b_MO_allSizes 1 (Option.some FieldType.int) 0 := ⟨g_846, g_65, by decide, by decide +kernel⟩
set_option maxHeartbeats 4000000 in
set_option maxRecDepth 100000 in
theorem c_MO_allSizes (l0 : Launch) (D : GG) (m : Nat) (kp : Int) (fl : Int) (fo : Int) (di : Int) (ty : Int) (az : Int) (v : SV)  : Ct l0 D y_MO_allSizes b_MO_allSizes 1 (Option.some FieldType.int) ({ frames := 1, cells := 0, slots := 0, locals := 21 } : Room) [.ref m] (fun H => At D H m (oO 11 [.ref (m + 1), .ref (m + 2), zV kp, .ref (m + 3), zV fl, .ref (m + 4), .ref (m + 5), .ref (m + 6), zV fo, .ref (m + 7), zV di, zV ty, .ref (m + 8), zV az, .ref (m + 9), .ref (m + 10), .ref (m + 11)]) ∧ isN D H (m + 1) v) nA 0 0 (q_MO_allSizes D m kp fl fo di ty az v) := by
  refine Ct.of (L := [(0, .ref m)]) (by decide) (Nat.le_of_ble_eq_true rfl) rfl (fun M H ho hr hnm hH hpre => ?_)
  obtain ⟨t_o, t_n⟩ := hpre
  obtain ⟨n_f, n_a, n_r, n_o⟩ := id t_n
  have n_1 := n_o.1
  have n_2 := n_o.2.1
  have n_3 := n_o.2.2
  refine x_aload_n ho 0 d_MO_allSizes_0 rfl ?_
  refine x_iconst ho d_MO_allSizes_1 ?_
  refine x_callV (rest := []) ho d_MO_allSizes_2 yv_MO_size g_829 g_26 g_828 (c_MO_size M.2.1 D m kp fl fo di ty az v 0 (by omega)) rfl rfl ⟨Nat.le_of_ble_eq_true rfl, Nat.le_of_ble_eq_true rfl⟩ ⟨Nat.le_of_ble_eq_true rfl, Nat.le_of_ble_eq_true rfl⟩ rfl rfl (Nat.le_of_ble_eq_true rfl) t_o rfl rfl ⟨t_o, t_n⟩ fr_none' (x_rd (fun v_1 hv_1 => ?_))
  obtain ⟨rfl, sb_3⟩ := hv_1
  show X _ _ _ _ _ _ _ _ _ [zV (((v.1 0).length : Int))] _
  refine x_aload_n ho 0 d_MO_allSizes_5 rfl ?_
  refine x_iconst ho d_MO_allSizes_6 ?_
  refine x_callV (rest := [zV (((v.1 0).length : Int))]) ho d_MO_allSizes_7 yv_MO_size g_829 g_26 g_828 (c_MO_size M.2.1 D m kp fl fo di ty az v 1 (by omega)) rfl rfl ⟨Nat.le_of_ble_eq_true rfl, Nat.le_of_ble_eq_true rfl⟩ ⟨Nat.le_of_ble_eq_true rfl, Nat.le_of_ble_eq_true rfl⟩ rfl rfl (Nat.le_of_ble_eq_true rfl) t_o rfl rfl ⟨t_o, t_n⟩ fr_none' (x_rd (fun v_4 hv_4 => ?_))
  obtain ⟨rfl, sb_6⟩ := hv_4
  show X _ _ _ _ _ _ _ _ _ [zV (((v.1 1).length : Int)), zV (((v.1 0).length : Int))] _
  refine x_iadd ho d_MO_allSizes_10 ?_
  refine x_aload_n ho 0 d_MO_allSizes_11 rfl ?_
  refine x_iconst ho d_MO_allSizes_12 ?_
  refine x_callV (rest := [zV ((((v.1 0).length : Int)) + (((v.1 1).length : Int)))]) ho d_MO_allSizes_13 yv_MO_size g_829 g_26 g_828 (c_MO_size M.2.1 D m kp fl fo di ty az v 2 (by omega)) rfl rfl ⟨Nat.le_of_ble_eq_true rfl, Nat.le_of_ble_eq_true rfl⟩ ⟨Nat.le_of_ble_eq_true rfl, Nat.le_of_ble_eq_true rfl⟩ rfl rfl (Nat.le_of_ble_eq_true rfl) t_o rfl rfl ⟨t_o, t_n⟩ fr_none' (x_rd (fun v_7 hv_7 => ?_))
  obtain ⟨rfl, sb_9⟩ := hv_7
  show X _ _ _ _ _ _ _ _ _ [zV (((v.1 2).length : Int)), zV ((((v.1 0).length : Int)) + (((v.1 1).length : Int)))] _
  refine x_iadd ho d_MO_allSizes_16 ?_
  refine x_aload_n ho 0 d_MO_allSizes_17 rfl ?_
  refine x_iconst ho d_MO_allSizes_18 ?_
  refine x_callV (rest := [zV (((((v.1 0).length : Int)) + (((v.1 1).length : Int))) + (((v.1 2).length : Int)))]) ho d_MO_allSizes_19 yv_MO_size g_829 g_26 g_828 (c_MO_size M.2.1 D m kp fl fo di ty az v 3 (by omega)) rfl rfl ⟨Nat.le_of_ble_eq_true rfl, Nat.le_of_ble_eq_true rfl⟩ ⟨Nat.le_of_ble_eq_true rfl, Nat.le_of_ble_eq_true rfl⟩ rfl rfl (Nat.le_of_ble_eq_true rfl) t_o rfl rfl ⟨t_o, t_n⟩ fr_none' (x_rd (fun v_10 hv_10 => ?_))
  obtain ⟨rfl, sb_12⟩ := hv_10
  show X _ _ _ _ _ _ _ _ _ [zV (((v.1 3).length : Int)), zV (((((v.1 0).length : Int)) + (((v.1 1).length : Int))) + (((v.1 2).length : Int)))] _
  refine x_iadd ho d_MO_allSizes_22 ?_
  refine x_iret ho hr d_MO_allSizes_23 ?_
  exact rI (by show _ = 0 + ((v.1 0).length : Int) + ((v.1 1).length : Int) + ((v.1 2).length : Int) + ((v.1 3).length : Int); omega)
def q_MO_isSameRule (D : GG) (m : Nat) (kp : Int) (fl : Int) (fo : Int) (di : Int) (ty : Int) (az : Int) (v : SV) (t : Int → Int) (c : Int → List Int) : Option Value → Heap → Prop := fun v0 H => v0 = some (zV (bI (same4 c v.1)))
theorem yv_MO_isSameRule : Yv y_MO_isSameRule b_MO_isSameRule 4 (Option.some FieldType.boolean) 0 := ⟨g_827, g_65, by decide, by decide +kernel⟩
set_option maxHeartbeats 4000000 in
set_option maxRecDepth 100000 in
theorem c_MO_isSameRule (l0 : Launch) (D : GG) (m : Nat) (kp : Int) (fl : Int) (fo : Int) (di : Int) (ty : Int) (az : Int) (v : SV) (t : Int → Int) (c : Int → List Int) (ht : rpR t c) (hc : ∀ l : Int, 0 ≤ l → l < 4 → ((c l).length : Int) ≤ 300 ∧ wf (c l)) : Ct l0 D y_MO_isSameRule b_MO_isSameRule 4 (Option.some FieldType.boolean) ({ frames := 1, cells := 0, slots := 0, locals := 22 } : Room) [.ref m] (fun H => At D H m (oO 11 [.ref (m + 1), .ref (m + 2), zV kp, .ref (m + 3), zV fl, .ref (m + 4), .ref (m + 5), .ref (m + 6), zV fo, .ref (m + 7), zV di, zV ty, .ref (m + 8), zV az, .ref (m + 9), .ref (m + 10), .ref (m + 11)]) ∧ isN D H (m + 1) v ∧ At D H (m + 4) (oI D 301 t)) nA 0 0 (q_MO_isSameRule D m kp fl fo di ty az v t c) := by
  refine Ct.of (L := [(0, .ref m)]) (by decide) (Nat.le_of_ble_eq_true rfl) rfl (fun M H ho hr hnm hH hpre => ?_)
  obtain ⟨t_o, t_n, t_t⟩ := hpre
  obtain ⟨n_f, n_a, n_r, n_o⟩ := id t_n
  have n_1 := n_o.1
  have n_2 := n_o.2.1
  have n_3 := n_o.2.2
  refine x_iconst ho d_MO_isSameRule_0 ?_
  refine x_istore_n (L' := [(1, zV 1), (0, .ref m)]) ho d_MO_isSameRule_1 (by decide) rfl ?_
  refine x_iconst ho d_MO_isSameRule_2 ?_
  refine x_istore_n (L' := [(2, zV 0), (1, zV 1), (0, .ref m)]) ho d_MO_isSameRule_3 (by decide) rfl ?_
  have loop_4 : ∀ (kk : Nat) (l : Int) (s : Int) (l0 : 0 ≤ l ∧ l ≤ 4) (s0 : s = 0 ∨ s = 1) (hs : (s = 1 ∧ ∀ j : Int, 0 ≤ j → j < l → c j = v.1 j) ∨ (s = 0 ∧ ¬ same4 c v.1)), (4 - l).toNat < kk → X M ({ frames := 1, cells := 0, slots := 0, locals := 22 } : Room) 4 nA 0 0 (Qof M nA (q_MO_isSameRule D m kp fl fo di ty az v t c) 0 0) 4 [(2, zV l), (1, zV s), (0, .ref m)] [] H := by
    intro kk
    induction kk with
    | zero => intro l s l0 s0 hs hk; exact absurd hk (Nat.not_lt_zero _)
    | succ kk ih_4 =>
      intro l s l0 s0 hs hk_4
      refine x_iload_n ho 0 d_MO_isSameRule_4 rfl ?_
      refine x_iconst ho d_MO_isSameRule_5 ?_
      refine x_icmp_ge (tgt := 89) ho d_MO_isSameRule_6 (by decide) (by omega) (by omega) (fun c_6 => ?_) (fun c_6 => ?_)
      ·
        refine x_iload_n ho 1 d_MO_isSameRule_89 rfl ?_
        refine x_eqI (b := bI (same4 c v.1)) (by rcases hs with h | h; rw [bI_t (P := same4 c v.1) (fun j a b => h.2 j a (by omega))]; exact h.1; rw [bI_f h.2]; exact h.1) ?_
        refine x_zret ho hr (bI_01 _) d_MO_isSameRule_90 ?_
        exact rfl
      ·
        refine x_iload_n ho 1 d_MO_isSameRule_9 rfl ?_
        refine x_aload_n ho 2 d_MO_isSameRule_10 rfl ?_
        refine x_get 5 ho d_MO_isSameRule_11 cl_MO (by decide) g_762 t_o rfl ?_
        refine x_bipush (z := 9) ho d_MO_isSameRule_14 (by decide) ?_
        refine x_iload_n ho 0 d_MO_isSameRule_16 rfl ?_
        refine x_imul ho d_MO_isSameRule_17 ?_
        refine x_iald ho d_MO_isSameRule_18 t_t (by omega) (by omega) (by omega) ?_
        refine x_eqI (b := ((c l).length : Int)) (by exact (ht l (by omega) (by omega)).1) ?_
        refine x_aload_n ho 2 d_MO_isSameRule_19 rfl ?_
        refine x_iload_n ho 0 d_MO_isSameRule_20 rfl ?_
        refine x_callV (rest := [zV (((c l).length : Int)), zV s]) ho d_MO_isSameRule_21 yv_MO_size g_829 g_26 g_828 (c_MO_size M.2.1 D m kp fl fo di ty az v l (by omega)) rfl rfl ⟨Nat.le_of_ble_eq_true rfl, Nat.le_of_ble_eq_true rfl⟩ ⟨Nat.le_of_ble_eq_true rfl, Nat.le_of_ble_eq_true rfl⟩ rfl rfl (Nat.le_of_ble_eq_true rfl) t_o rfl rfl ⟨t_o, t_n⟩ fr_none' (x_rd (fun v_1 hv_1 => ?_))
        obtain ⟨rfl, sb_3⟩ := hv_1
        show X _ _ _ _ _ _ _ _ _ [zV (((v.1 l).length : Int)), zV (((c l).length : Int)), zV s] _
        have h_c := hc l (by omega) (by omega)
        refine x_icmp_ne (tgt := 31) ho d_MO_isSameRule_24 (by decide) (by omega) (by omega) (fun c_24 => ?_) (fun c_24 => ?_)
        ·
          refine x_iconst ho d_MO_isSameRule_31 ?_
          refine x_and16 ho d_MO_isSameRule_32 (by omega) (by omega) ?_
          refine x_eqI (b := 0) (by exact and_b0 s0) ?_
          refine x_istore_n (L' := [(1, zV 0), (2, zV l), (0, .ref m)]) ho d_MO_isSameRule_33 (by decide) rfl ?_
          refine x_iconst ho d_MO_isSameRule_34 ?_
          refine x_istore_n (L' := [(3, zV 0), (1, zV 0), (2, zV l), (0, .ref m)]) ho d_MO_isSameRule_35 (by decide) rfl ?_
          have loop_36 : ∀ (kk : Nat) (k : Int) (s : Int) (k0 : 0 ≤ k ∧ k ≤ ((v.1 l).length : Int)) (s1 : s = 0 ∨ s = 1) (hk : (s = 1 ∧ (∀ j : Int, 0 ≤ j → j < l → c j = v.1 j) ∧ ((c l).length : Int) = ((v.1 l).length : Int) ∧ ∀ j : Int, 0 ≤ j → j < k → gA (c l) j = gA (v.1 l) j) ∨ (s = 0 ∧ ¬ same4 c v.1)), (((v.1 l).length : Int) - k).toNat < kk → X M ({ frames := 1, cells := 0, slots := 0, locals := 22 } : Room) 4 nA 0 0 (Qof M nA (q_MO_isSameRule D m kp fl fo di ty az v t c) 0 0) 36 [(3, zV k), (1, zV s), (2, zV l), (0, .ref m)] [] H := by
            intro kk
            induction kk with
            | zero => intro k s k0 s1 hk hk; exact absurd hk (Nat.not_lt_zero _)
            | succ kk ih_36 =>
              intro k s k0 s1 hk hk_36
              refine x_iload_n ho 0 d_MO_isSameRule_36 rfl ?_
              refine x_aload_n ho 3 d_MO_isSameRule_37 rfl ?_
              refine x_iload_n ho 2 d_MO_isSameRule_38 rfl ?_
              refine x_callV (rest := [zV k]) ho d_MO_isSameRule_39 yv_MO_size g_829 g_26 g_828 (c_MO_size M.2.1 D m kp fl fo di ty az v l (by omega)) rfl rfl ⟨Nat.le_of_ble_eq_true rfl, Nat.le_of_ble_eq_true rfl⟩ ⟨Nat.le_of_ble_eq_true rfl, Nat.le_of_ble_eq_true rfl⟩ rfl rfl (Nat.le_of_ble_eq_true rfl) t_o rfl rfl ⟨t_o, t_n⟩ fr_none' (x_rd (fun v_4 hv_4 => ?_))
              obtain ⟨rfl, sb_6⟩ := hv_4
              show X _ _ _ _ _ _ _ _ _ [zV (((v.1 l).length : Int)), zV k] _
              refine x_icmp_ge (tgt := 83) ho d_MO_isSameRule_42 (by decide) (by omega) (by omega) (fun c_42 => ?_) (fun c_42 => ?_)
              ·
                refine x_iinc (L' := [(2, zV (l + 1)), (3, zV k), (1, zV s), (0, .ref m)]) ho 2 d_MO_isSameRule_83 rfl rfl (by decide) rfl ?_
                refine x_goto (tgt := 4) ho d_MO_isSameRule_86 (by decide) ?_
                refine x_sub (L' := [(2, zV (l + 1)), (1, zV s), (0, .ref m)]) [0, 2, 3] rfl ?_
                exact ih_4 (l + 1) s (by omega) (by omega) (by rcases hk with h | h; refine Or.inl ⟨h.1, fun j a b => ?_⟩; rcases (show j < l ∨ j = l by omega) with z | z; exact h.2.1 j a z; rw [z]; exact li_ext4 h.2.2.1 (fun j a b => h.2.2.2 j a (by omega)); exact Or.inr h) (by omega)
              ·
                refine x_iload_n ho 1 d_MO_isSameRule_45 rfl ?_
                refine x_if_eq (tgt := 83) ho d_MO_isSameRule_46 (by decide) (by omega) (fun c_46 => ?_) (fun c_46 => ?_)
                ·
                  refine x_iinc (L' := [(2, zV (l + 1)), (3, zV k), (1, zV s), (0, .ref m)]) ho 2 d_MO_isSameRule_83 rfl rfl (by decide) rfl ?_
                  refine x_goto (tgt := 4) ho d_MO_isSameRule_86 (by decide) ?_
                  refine x_sub (L' := [(2, zV (l + 1)), (1, zV s), (0, .ref m)]) [0, 2, 3] rfl ?_
                  exact ih_4 (l + 1) s (by omega) (by omega) (by rcases hk with h | h; omega; exact Or.inr h) (by omega)
                ·
                  refine x_aload_n ho 3 d_MO_isSameRule_49 rfl ?_
                  refine x_get 5 ho d_MO_isSameRule_50 cl_MO (by decide) g_762 t_o rfl ?_
                  refine x_bipush (z := 9) ho d_MO_isSameRule_53 (by decide) ?_
                  refine x_iload_n ho 2 d_MO_isSameRule_55 rfl ?_
                  refine x_imul ho d_MO_isSameRule_56 ?_
                  refine x_iconst ho d_MO_isSameRule_57 ?_
                  refine x_iadd ho d_MO_isSameRule_58 ?_
                  refine x_iload_n ho 0 d_MO_isSameRule_59 rfl ?_
                  refine x_iadd ho d_MO_isSameRule_60 ?_
                  have h_1 : s = 1 := by omega
                  have h_2 : (∀ j : Int, 0 ≤ j → j < l → c j = v.1 j) ∧ ((c l).length : Int) = ((v.1 l).length : Int) ∧ ∀ j : Int, 0 ≤ j → j < k → gA (c l) j = gA (v.1 l) j := by rcases hk with h | h; exact h.2; omega
                  have h_3 := n_1 l (by omega) (by omega)
                  have h_4 := gA_r h_c.2 k
                  refine x_iald ho d_MO_isSameRule_61 t_t (by omega) (by omega) (by omega) ?_
                  refine x_eqI (b := gA (c l) k) (by exact (ht l (by omega) (by omega)).2 k (by omega) (by omega)) ?_
                  refine x_aload_n ho 3 d_MO_isSameRule_62 rfl ?_
                  refine x_iload_n ho 2 d_MO_isSameRule_63 rfl ?_
                  refine x_iload_n ho 0 d_MO_isSameRule_64 rfl ?_
                  refine x_callV (rest := [zV (gA (c l) k)]) ho d_MO_isSameRule_65 yv_MO_sign g_832 g_27 g_831 (c_MO_sign M.2.1 D m kp fl fo di ty az v l k (by omega) (by omega)) rfl rfl ⟨Nat.le_of_ble_eq_true rfl, Nat.le_of_ble_eq_true rfl⟩ ⟨Nat.le_of_ble_eq_true rfl, Nat.le_of_ble_eq_true rfl⟩ rfl rfl (Nat.le_of_ble_eq_true rfl) t_o rfl rfl ⟨t_o, t_n⟩ fr_none' (x_rd (fun v_7 hv_7 => ?_))
                  obtain ⟨rfl, gb_9⟩ := hv_7
                  show X _ _ _ _ _ _ _ _ _ [zV (gA (v.1 l) k), zV (gA (c l) k)] _
                  refine x_icmp_ne (tgt := 75) ho d_MO_isSameRule_68 (by decide) (by omega) (by omega) (fun c_68 => ?_) (fun c_68 => ?_)
                  ·
                    refine x_iconst ho d_MO_isSameRule_75 ?_
                    refine x_istore_n (L' := [(1, zV 0), (3, zV k), (2, zV l), (0, .ref m)]) ho d_MO_isSameRule_76 (by decide) rfl ?_
                    refine x_iinc (L' := [(3, zV (k + 1)), (1, zV 0), (2, zV l), (0, .ref m)]) ho 1 d_MO_isSameRule_77 rfl rfl (by decide) rfl ?_
                    refine x_goto (tgt := 36) ho d_MO_isSameRule_80 (by decide) ?_
                    exact ih_36 (k + 1) 0 (by omega) (by omega) (by exact Or.inr ⟨rfl, fun q => c_68 (by rw [q l (by omega) (by omega)])⟩) (by omega)
                  ·
                    refine x_iconst ho d_MO_isSameRule_71 ?_
                    refine x_goto (tgt := 76) ho d_MO_isSameRule_72 (by decide) ?_
                    refine x_istore_n (L' := [(1, zV 1), (3, zV k), (2, zV l), (0, .ref m)]) ho d_MO_isSameRule_76 (by decide) rfl ?_
                    refine x_iinc (L' := [(3, zV (k + 1)), (1, zV 1), (2, zV l), (0, .ref m)]) ho 1 d_MO_isSameRule_77 rfl rfl (by decide) rfl ?_
                    refine x_goto (tgt := 36) ho d_MO_isSameRule_80 (by decide) ?_
                    exact ih_36 (k + 1) 1 (by omega) (by omega) (by exact Or.inl ⟨rfl, h_2.1, h_2.2.1, fun j a b => by rcases (show j < k ∨ j = k by omega) with z | z; exact h_2.2.2 j a z; rw [z]; exact c_68⟩) (by omega)
          exact loop_36 _ 0 0 (by omega) (by omega) (by exact Or.inr ⟨rfl, fun q => c_24 (by rw [q l (by omega) (by omega)])⟩) (Nat.lt_succ_self _)
        ·
          refine x_iconst ho d_MO_isSameRule_27 ?_
          refine x_goto (tgt := 32) ho d_MO_isSameRule_28 (by decide) ?_
          refine x_and16 ho d_MO_isSameRule_32 (by omega) (by omega) ?_
          refine x_eqI (b := s) (by exact and_b1 s0) ?_
          refine x_istore_n (L' := [(1, zV s), (2, zV l), (0, .ref m)]) ho d_MO_isSameRule_33 (by decide) rfl ?_
          refine x_iconst ho d_MO_isSameRule_34 ?_
          refine x_istore_n (L' := [(3, zV 0), (1, zV s), (2, zV l), (0, .ref m)]) ho d_MO_isSameRule_35 (by decide) rfl ?_
          have loop_36 : ∀ (kk : Nat) (k : Int) (s : Int) (k0 : 0 ≤ k ∧ k ≤ ((v.1 l).length : Int)) (s1 : s = 0 ∨ s = 1) (hk : (s = 1 ∧ (∀ j : Int, 0 ≤ j → j < l → c j = v.1 j) ∧ ((c l).length : Int) = ((v.1 l).length : Int) ∧ ∀ j : Int, 0 ≤ j → j < k → gA (c l) j = gA (v.1 l) j) ∨ (s = 0 ∧ ¬ same4 c v.1)), (((v.1 l).length : Int) - k).toNat < kk → X M ({ frames := 1, cells := 0, slots := 0, locals := 22 } : Room) 4 nA 0 0 (Qof M nA (q_MO_isSameRule D m kp fl fo di ty az v t c) 0 0) 36 [(3, zV k), (1, zV s), (2, zV l), (0, .ref m)] [] H := by
            intro kk
            induction kk with
            | zero => intro k s k0 s1 hk hk; exact absurd hk (Nat.not_lt_zero _)
            | succ kk ih_36 =>
              intro k s k0 s1 hk hk_36
              refine x_iload_n ho 0 d_MO_isSameRule_36 rfl ?_
              refine x_aload_n ho 3 d_MO_isSameRule_37 rfl ?_
              refine x_iload_n ho 2 d_MO_isSameRule_38 rfl ?_
              refine x_callV (rest := [zV k]) ho d_MO_isSameRule_39 yv_MO_size g_829 g_26 g_828 (c_MO_size M.2.1 D m kp fl fo di ty az v l (by omega)) rfl rfl ⟨Nat.le_of_ble_eq_true rfl, Nat.le_of_ble_eq_true rfl⟩ ⟨Nat.le_of_ble_eq_true rfl, Nat.le_of_ble_eq_true rfl⟩ rfl rfl (Nat.le_of_ble_eq_true rfl) t_o rfl rfl ⟨t_o, t_n⟩ fr_none' (x_rd (fun v_10 hv_10 => ?_))
              obtain ⟨rfl, sb_12⟩ := hv_10
              show X _ _ _ _ _ _ _ _ _ [zV (((v.1 l).length : Int)), zV k] _
              refine x_icmp_ge (tgt := 83) ho d_MO_isSameRule_42 (by decide) (by omega) (by omega) (fun c_42 => ?_) (fun c_42 => ?_)
              ·
                refine x_iinc (L' := [(2, zV (l + 1)), (3, zV k), (1, zV s), (0, .ref m)]) ho 2 d_MO_isSameRule_83 rfl rfl (by decide) rfl ?_
                refine x_goto (tgt := 4) ho d_MO_isSameRule_86 (by decide) ?_
                refine x_sub (L' := [(2, zV (l + 1)), (1, zV s), (0, .ref m)]) [0, 2, 3] rfl ?_
                exact ih_4 (l + 1) s (by omega) (by omega) (by rcases hk with h | h; refine Or.inl ⟨h.1, fun j a b => ?_⟩; rcases (show j < l ∨ j = l by omega) with z | z; exact h.2.1 j a z; rw [z]; exact li_ext4 h.2.2.1 (fun j a b => h.2.2.2 j a (by omega)); exact Or.inr h) (by omega)
              ·
                refine x_iload_n ho 1 d_MO_isSameRule_45 rfl ?_
                refine x_if_eq (tgt := 83) ho d_MO_isSameRule_46 (by decide) (by omega) (fun c_46 => ?_) (fun c_46 => ?_)
                ·
                  refine x_iinc (L' := [(2, zV (l + 1)), (3, zV k), (1, zV s), (0, .ref m)]) ho 2 d_MO_isSameRule_83 rfl rfl (by decide) rfl ?_
                  refine x_goto (tgt := 4) ho d_MO_isSameRule_86 (by decide) ?_
                  refine x_sub (L' := [(2, zV (l + 1)), (1, zV s), (0, .ref m)]) [0, 2, 3] rfl ?_
                  exact ih_4 (l + 1) s (by omega) (by omega) (by rcases hk with h | h; omega; exact Or.inr h) (by omega)
                ·
                  refine x_aload_n ho 3 d_MO_isSameRule_49 rfl ?_
                  refine x_get 5 ho d_MO_isSameRule_50 cl_MO (by decide) g_762 t_o rfl ?_
                  refine x_bipush (z := 9) ho d_MO_isSameRule_53 (by decide) ?_
                  refine x_iload_n ho 2 d_MO_isSameRule_55 rfl ?_
                  refine x_imul ho d_MO_isSameRule_56 ?_
                  refine x_iconst ho d_MO_isSameRule_57 ?_
                  refine x_iadd ho d_MO_isSameRule_58 ?_
                  refine x_iload_n ho 0 d_MO_isSameRule_59 rfl ?_
                  refine x_iadd ho d_MO_isSameRule_60 ?_
                  have h_1 : s = 1 := by omega
                  have h_2 : (∀ j : Int, 0 ≤ j → j < l → c j = v.1 j) ∧ ((c l).length : Int) = ((v.1 l).length : Int) ∧ ∀ j : Int, 0 ≤ j → j < k → gA (c l) j = gA (v.1 l) j := by rcases hk with h | h; exact h.2; omega
                  have h_3 := n_1 l (by omega) (by omega)
                  have h_4 := gA_r h_c.2 k
                  refine x_iald ho d_MO_isSameRule_61 t_t (by omega) (by omega) (by omega) ?_
                  refine x_eqI (b := gA (c l) k) (by exact (ht l (by omega) (by omega)).2 k (by omega) (by omega)) ?_
                  refine x_aload_n ho 3 d_MO_isSameRule_62 rfl ?_
                  refine x_iload_n ho 2 d_MO_isSameRule_63 rfl ?_
                  refine x_iload_n ho 0 d_MO_isSameRule_64 rfl ?_
                  refine x_callV (rest := [zV (gA (c l) k)]) ho d_MO_isSameRule_65 yv_MO_sign g_832 g_27 g_831 (c_MO_sign M.2.1 D m kp fl fo di ty az v l k (by omega) (by omega)) rfl rfl ⟨Nat.le_of_ble_eq_true rfl, Nat.le_of_ble_eq_true rfl⟩ ⟨Nat.le_of_ble_eq_true rfl, Nat.le_of_ble_eq_true rfl⟩ rfl rfl (Nat.le_of_ble_eq_true rfl) t_o rfl rfl ⟨t_o, t_n⟩ fr_none' (x_rd (fun v_13 hv_13 => ?_))
                  obtain ⟨rfl, gb_15⟩ := hv_13
                  show X _ _ _ _ _ _ _ _ _ [zV (gA (v.1 l) k), zV (gA (c l) k)] _
                  refine x_icmp_ne (tgt := 75) ho d_MO_isSameRule_68 (by decide) (by omega) (by omega) (fun c_68 => ?_) (fun c_68 => ?_)
                  ·
                    refine x_iconst ho d_MO_isSameRule_75 ?_
                    refine x_istore_n (L' := [(1, zV 0), (3, zV k), (2, zV l), (0, .ref m)]) ho d_MO_isSameRule_76 (by decide) rfl ?_
                    refine x_iinc (L' := [(3, zV (k + 1)), (1, zV 0), (2, zV l), (0, .ref m)]) ho 1 d_MO_isSameRule_77 rfl rfl (by decide) rfl ?_
                    refine x_goto (tgt := 36) ho d_MO_isSameRule_80 (by decide) ?_
                    exact ih_36 (k + 1) 0 (by omega) (by omega) (by exact Or.inr ⟨rfl, fun q => c_68 (by rw [q l (by omega) (by omega)])⟩) (by omega)
                  ·
                    refine x_iconst ho d_MO_isSameRule_71 ?_
                    refine x_goto (tgt := 76) ho d_MO_isSameRule_72 (by decide) ?_
                    refine x_istore_n (L' := [(1, zV 1), (3, zV k), (2, zV l), (0, .ref m)]) ho d_MO_isSameRule_76 (by decide) rfl ?_
                    refine x_iinc (L' := [(3, zV (k + 1)), (1, zV 1), (2, zV l), (0, .ref m)]) ho 1 d_MO_isSameRule_77 rfl rfl (by decide) rfl ?_
                    refine x_goto (tgt := 36) ho d_MO_isSameRule_80 (by decide) ?_
                    exact ih_36 (k + 1) 1 (by omega) (by omega) (by exact Or.inl ⟨rfl, h_2.1, h_2.2.1, fun j a b => by rcases (show j < k ∨ j = k by omega) with z | z; exact h_2.2.2 j a z; rw [z]; exact c_68⟩) (by omega)
          exact loop_36 _ 0 s (by omega) (by omega) (by rcases hs with h | h; exact Or.inl ⟨h.1, h.2, c_24, fun j a b => by omega⟩; exact Or.inr h) (Nat.lt_succ_self _)
  exact loop_4 _ 0 1 (by omega) (by omega) (by exact Or.inl ⟨rfl, fun j a b => by omega⟩) (Nat.lt_succ_self _)
def q_MO_laysRule (D : GG) (m : Nat) (kp : Int) (fl : Int) (fo : Int) (di : Int) (ty : Int) (az : Int) (v : SV) (t : Int → Int) (c : Int → List Int) : Option Value → Heap → Prop := fun v0 H => v0 = none ∧ At D H m (oO 11 [.ref (m + 1), .ref (m + 2), zV kp, .ref (m + 3), zV fl, .ref (m + 4), .ref (m + 5), .ref (m + 6), zV fo, .ref (m + 7), zV di, zV ty, .ref (m + 8), zV az, .ref (m + 9), .ref (m + 10), .ref (m + 11)]) ∧ isN D H (m + 1) (c, v.2) ∧ At D H (m + 4) (oI D 301 t)
theorem yv_MO_laysRule : Yv y_MO_laysRule b_MO_laysRule 2 (Option.none : Option FieldType) 0 := ⟨g_839, g_65, by decide, by decide +kernel⟩
set_option maxHeartbeats 4000000 in
set_option maxRecDepth 100000 in
theorem c_MO_laysRule (l0 : Launch) (D : GG) (m : Nat) (kp : Int) (fl : Int) (fo : Int) (di : Int) (ty : Int) (az : Int) (v : SV) (t : Int → Int) (c : Int → List Int) (ht : rpR t c) (hc : okR c) : Ct l0 D y_MO_laysRule b_MO_laysRule 2 (Option.none : Option FieldType) ({ frames := 0, cells := 0, slots := 0, locals := 0 } : Room) [.ref m] (fun H => At D H m (oO 11 [.ref (m + 1), .ref (m + 2), zV kp, .ref (m + 3), zV fl, .ref (m + 4), .ref (m + 5), .ref (m + 6), zV fo, .ref (m + 7), zV di, zV ty, .ref (m + 8), zV az, .ref (m + 9), .ref (m + 10), .ref (m + 11)]) ∧ isN D H (m + 1) v ∧ At D H (m + 4) (oI D 301 t)) (rA (m + 1) (m + 2)) 0 0 (q_MO_laysRule D m kp fl fo di ty az v t c) := by
  refine Ct.of (L := [(0, .ref m)]) (by decide) (Nat.le_of_ble_eq_true rfl) rfl (fun M H ho hr hnm hH hpre => ?_)
  obtain ⟨t_o, t_n, t_t⟩ := hpre
  obtain ⟨n_f, n_a, n_r, n_o⟩ := id t_n
  have n_1 := n_o.1
  have n_2 := n_o.2.1
  have n_3 := n_o.2.2
  refine x_iconst ho d_MO_laysRule_0 ?_
  refine x_istore_n (L' := [(1, zV 0), (0, .ref m)]) ho d_MO_laysRule_1 (by decide) rfl ?_
  have loop_2 : ∀ (kk : Nat) (x : Int) (H_1 : Heap) (l_o : At D H_1 m (oO 11 [.ref (m + 1), .ref (m + 2), zV kp, .ref (m + 3), zV fl, .ref (m + 4), .ref (m + 5), .ref (m + 6), zV fo, .ref (m + 7), zV di, zV ty, .ref (m + 8), zV az, .ref (m + 9), .ref (m + 10), .ref (m + 11)])) (l_t : At D H_1 (m + 4) (oI D 301 t)) (l_d : At D H_1 (m + 1) (oI D 358 (zC t n_f 0 0 x))) (x0 : 0 ≤ x ∧ x ≤ 36), (36 - x).toNat < kk → X M ({ frames := 0, cells := 0, slots := 0, locals := 0 } : Room) 2 (rA (m + 1) (m + 2)) 0 0 (Qof M (rA (m + 1) (m + 2)) (q_MO_laysRule D m kp fl fo di ty az v t c) 0 0) 2 [(1, zV x), (0, .ref m)] [] H_1 := by
    intro kk
    induction kk with
    | zero => intro x H_1 l_o l_t l_d x0 hk; exact absurd hk (Nat.not_lt_zero _)
    | succ kk ih_2 =>
      intro x H_1 l_o l_t l_d x0 hk_2
      refine x_iload_n ho 0 d_MO_laysRule_2 rfl ?_
      refine x_bipush (z := 36) ho d_MO_laysRule_3 (by decide) ?_
      refine x_icmp_ge (tgt := 26) ho d_MO_laysRule_5 (by decide) (by omega) (by omega) (fun c_5 => ?_) (fun c_5 => ?_)
      ·
        refine x_vret ho hr d_MO_laysRule_26 ?_
        exact ⟨rfl, l_o, ⟨_, l_d, rp_layR ht hc n_r (by omega), hc, n_o.2⟩, l_t⟩
      ·
        refine x_aload_n ho 1 d_MO_laysRule_8 rfl ?_
        refine x_get 0 ho d_MO_laysRule_9 cl_MO (by decide) g_757 l_o rfl ?_
        refine x_iload_n ho 0 d_MO_laysRule_12 rfl ?_
        refine x_aload_n ho 1 d_MO_laysRule_13 rfl ?_
        refine x_get 5 ho d_MO_laysRule_14 cl_MO (by decide) g_762 l_o rfl ?_
        refine x_iload_n ho 0 d_MO_laysRule_17 rfl ?_
        refine x_iald ho d_MO_laysRule_18 l_t (by omega) (by omega) (by omega) ?_
        refine x_iast ho d_MO_laysRule_19 l_d (by omega) (by omega) (by omega) (rA_in (by omega) (by omega)) (fun H_2 p_3 z_4 q_5 => ?_)
        have k_6 := l_o.kept (q_5 _ (by omega))
        have k_7 := l_t.kept (q_5 _ (by omega))
        refine x_iinc (L' := [(1, zV (x + 1)), (0, .ref m)]) ho 0 d_MO_laysRule_20 rfl rfl (by decide) rfl ?_
        refine x_goto (tgt := 2) ho d_MO_laysRule_23 (by decide) ?_
        exact ih_2 (x + 1) H_2 k_6 k_7 (zC_at p_3 (by omega) (by omega) (by first | rfl | (congr 1; omega))) (by omega) (by omega)
  exact loop_2 _ 0 H t_o t_t (by rw [zC_0]; exact n_a) (by omega) (Nat.lt_succ_self _)
def q_MO_takesRule (D : GG) (m : Nat) (kp : Int) (fl : Int) (fo : Int) (di : Int) (ty : Int) (az : Int) (v : SV) (t : Int → Int) : Option Value → Heap → Prop := fun v0 H => ∃ (t1 : Int → Int), v0 = none ∧ rpR t1 v.1 ∧ At D H m (oO 11 [.ref (m + 1), .ref (m + 2), zV kp, .ref (m + 3), zV fl, .ref (m + 4), .ref (m + 5), .ref (m + 6), zV fo, .ref (m + 7), zV di, zV ty, .ref (m + 8), zV az, .ref (m + 9), .ref (m + 10), .ref (m + 11)]) ∧ isN D H (m + 1) v ∧ At D H (m + 4) (oI D 301 t1)
theorem yv_MO_takesRule : Yv y_MO_takesRule b_MO_takesRule 2 (Option.none : Option FieldType) 0 := ⟨g_815, g_65, by decide, by decide +kernel⟩
set_option maxHeartbeats 4000000 in
set_option maxRecDepth 100000 in
theorem c_MO_takesRule (l0 : Launch) (D : GG) (m : Nat) (kp : Int) (fl : Int) (fo : Int) (di : Int) (ty : Int) (az : Int) (v : SV) (t : Int → Int)  : Ct l0 D y_MO_takesRule b_MO_takesRule 2 (Option.none : Option FieldType) ({ frames := 0, cells := 0, slots := 0, locals := 0 } : Room) [.ref m] (fun H => At D H m (oO 11 [.ref (m + 1), .ref (m + 2), zV kp, .ref (m + 3), zV fl, .ref (m + 4), .ref (m + 5), .ref (m + 6), zV fo, .ref (m + 7), zV di, zV ty, .ref (m + 8), zV az, .ref (m + 9), .ref (m + 10), .ref (m + 11)]) ∧ isN D H (m + 1) v ∧ At D H (m + 4) (oI D 301 t)) (rA (m + 4) (m + 5)) 0 0 (q_MO_takesRule D m kp fl fo di ty az v t) := by
  refine Ct.of (L := [(0, .ref m)]) (by decide) (Nat.le_of_ble_eq_true rfl) rfl (fun M H ho hr hnm hH hpre => ?_)
  obtain ⟨t_o, t_n, t_t⟩ := hpre
  obtain ⟨n_f, n_a, n_r, n_o⟩ := id t_n
  have n_1 := n_o.1
  have n_2 := n_o.2.1
  have n_3 := n_o.2.2
  refine x_iconst ho d_MO_takesRule_0 ?_
  refine x_istore_n (L' := [(1, zV 0), (0, .ref m)]) ho d_MO_takesRule_1 (by decide) rfl ?_
  have loop_2 : ∀ (kk : Nat) (x : Int) (H_1 : Heap) (l_o : At D H_1 m (oO 11 [.ref (m + 1), .ref (m + 2), zV kp, .ref (m + 3), zV fl, .ref (m + 4), .ref (m + 5), .ref (m + 6), zV fo, .ref (m + 7), zV di, zV ty, .ref (m + 8), zV az, .ref (m + 9), .ref (m + 10), .ref (m + 11)])) (l_n : isN D H_1 (m + 1) v) (l_a : At D H_1 (m + 1) (oI D 358 n_f)) (l_d : At D H_1 (m + 4) (oI D 301 (zC n_f t 0 0 x))) (x0 : 0 ≤ x ∧ x ≤ 36), (36 - x).toNat < kk → X M ({ frames := 0, cells := 0, slots := 0, locals := 0 } : Room) 2 (rA (m + 4) (m + 5)) 0 0 (Qof M (rA (m + 4) (m + 5)) (q_MO_takesRule D m kp fl fo di ty az v t) 0 0) 2 [(1, zV x), (0, .ref m)] [] H_1 := by
    intro kk
    induction kk with
    | zero => intro x H_1 l_o l_n l_a l_d x0 hk; exact absurd hk (Nat.not_lt_zero _)
    | succ kk ih_2 =>
      intro x H_1 l_o l_n l_a l_d x0 hk_2
      refine x_iload_n ho 0 d_MO_takesRule_2 rfl ?_
      refine x_bipush (z := 36) ho d_MO_takesRule_3 (by decide) ?_
      refine x_icmp_ge (tgt := 26) ho d_MO_takesRule_5 (by decide) (by omega) (by omega) (fun c_5 => ?_) (fun c_5 => ?_)
      ·
        refine x_vret ho hr d_MO_takesRule_26 ?_
        exact ⟨_, rfl, rp_takeR n_r n_o (show x = 36 by omega), l_o, l_n, l_d⟩
      ·
        refine x_aload_n ho 1 d_MO_takesRule_8 rfl ?_
        refine x_get 5 ho d_MO_takesRule_9 cl_MO (by decide) g_762 l_o rfl ?_
        refine x_iload_n ho 0 d_MO_takesRule_12 rfl ?_
        refine x_aload_n ho 1 d_MO_takesRule_13 rfl ?_
        refine x_get 0 ho d_MO_takesRule_14 cl_MO (by decide) g_757 l_o rfl ?_
        refine x_iload_n ho 0 d_MO_takesRule_17 rfl ?_
        refine x_iald ho d_MO_takesRule_18 l_a (by omega) (by omega) (by omega) ?_
        refine x_iast ho d_MO_takesRule_19 l_d (by omega) (by omega) (by omega) (rA_in (by omega) (by omega)) (fun H_2 p_3 z_4 q_5 => ?_)
        have k_6 := l_o.kept (q_5 _ (by omega))
        have k_7 := l_n.kept (q_5 _ (by omega))
        have k_8 := l_a.kept (q_5 _ (by omega))
        refine x_iinc (L' := [(1, zV (x + 1)), (0, .ref m)]) ho 0 d_MO_takesRule_20 rfl rfl (by decide) rfl ?_
        refine x_goto (tgt := 2) ho d_MO_takesRule_23 (by decide) ?_
        exact ih_2 (x + 1) H_2 k_6 k_7 k_8 (zC_at p_3 (by omega) (by omega) (by first | rfl | (congr 1; omega))) (by omega) (by omega)
  exact loop_2 _ 0 H t_o t_n n_a (by rw [zC_0]; exact t_t) (by omega) (Nat.lt_succ_self _)
def q_MO_isSameWord (D : GG) (m : Nat) (kp : Int) (fl : Int) (fo : Int) (di : Int) (ty : Int) (az : Int) (v : SV) (t : Int → Int) (w : List Int) : Option Value → Heap → Prop := fun v0 H => v0 = some (zV (bI (w = v.2.1)))
theorem yv_MO_isSameWord : Yv y_MO_isSameWord b_MO_isSameWord 3 (Option.some FieldType.boolean) 0 := ⟨g_883, g_65, by decide, by decide +kernel⟩
set_option maxHeartbeats 4000000 in
set_option maxRecDepth 100000 in
theorem c_MO_isSameWord (l0 : Launch) (D : GG) (m : Nat) (kp : Int) (fl : Int) (fo : Int) (di : Int) (ty : Int) (az : Int) (v : SV) (t : Int → Int) (w : List Int) (ht : rpW t 0 1 w) (hw : (w.length : Int) ≤ 300 ∧ wf w) : Ct l0 D y_MO_isSameWord b_MO_isSameWord 3 (Option.some FieldType.boolean) ({ frames := 1, cells := 0, slots := 0, locals := 21 } : Room) [.ref m] (fun H => At D H m (oO 11 [.ref (m + 1), .ref (m + 2), zV kp, .ref (m + 3), zV fl, .ref (m + 4), .ref (m + 5), .ref (m + 6), zV fo, .ref (m + 7), zV di, zV ty, .ref (m + 8), zV az, .ref (m + 9), .ref (m + 10), .ref (m + 11)]) ∧ isN D H (m + 1) v ∧ At D H (m + 4) (oI D 301 t)) nA 0 0 (q_MO_isSameWord D m kp fl fo di ty az v t w) := by
  refine Ct.of (L := [(0, .ref m)]) (by decide) (Nat.le_of_ble_eq_true rfl) rfl (fun M H ho hr hnm hH hpre => ?_)
  obtain ⟨t_o, t_n, t_t⟩ := hpre
  obtain ⟨n_f, n_a, n_r, n_o⟩ := id t_n
  have n_1 := n_o.1
  have n_2 := n_o.2.1
  have n_3 := n_o.2.2
  refine x_aload_n ho 0 d_MO_isSameWord_0 rfl ?_
  refine x_get 5 ho d_MO_isSameWord_1 cl_MO (by decide) g_762 t_o rfl ?_
  refine x_iconst ho d_MO_isSameWord_4 ?_
  refine x_iald ho d_MO_isSameWord_5 t_t (by omega) (by omega) (by omega) ?_
  refine x_eqI (b := (w.length : Int)) (by exact ht.1) ?_
  refine x_aload_n ho 0 d_MO_isSameWord_6 rfl ?_
  refine x_callV (rest := [zV ((w.length : Int))]) ho d_MO_isSameWord_7 yv_MO_length g_862 g_31 g_861 (c_MO_length M.2.1 D m kp fl fo di ty az v ) rfl rfl ⟨Nat.le_of_ble_eq_true rfl, Nat.le_of_ble_eq_true rfl⟩ ⟨Nat.le_of_ble_eq_true rfl, Nat.le_of_ble_eq_true rfl⟩ rfl rfl (Nat.le_of_ble_eq_true rfl) t_o rfl rfl ⟨t_o, t_n⟩ fr_none' (x_rd (fun v_1 hv_1 => ?_))
  obtain ⟨rfl, lb_3⟩ := hv_1
  show X _ _ _ _ _ _ _ _ _ [zV ((v.2.1.length : Int)), zV ((w.length : Int))] _
  refine x_icmp_ne (tgt := 17) ho d_MO_isSameWord_10 (by decide) (by omega) (by omega) (fun c_10 => ?_) (fun c_10 => ?_)
  ·
    refine x_iconst ho d_MO_isSameWord_17 ?_
    refine x_istore_n (L' := [(1, zV 0), (0, .ref m)]) ho d_MO_isSameWord_18 (by decide) rfl ?_
    refine x_iconst ho d_MO_isSameWord_19 ?_
    refine x_istore_n (L' := [(2, zV 0), (1, zV 0), (0, .ref m)]) ho d_MO_isSameWord_20 (by decide) rfl ?_
    have loop_21 : ∀ (kk : Nat) (k : Int) (s : Int) (k0 : 0 ≤ k ∧ k ≤ (v.2.1.length : Int)) (s1 : s = 0 ∨ s = 1) (hk : (s = 1 ∧ (w.length : Int) = (v.2.1.length : Int) ∧ ∀ j : Int, 0 ≤ j → j < k → gA w j = gA v.2.1 j) ∨ (s = 0 ∧ ¬ w = v.2.1)), ((v.2.1.length : Int) - k).toNat < kk → X M ({ frames := 1, cells := 0, slots := 0, locals := 21 } : Room) 3 nA 0 0 (Qof M nA (q_MO_isSameWord D m kp fl fo di ty az v t w) 0 0) 21 [(2, zV k), (1, zV s), (0, .ref m)] [] H := by
      intro kk
      induction kk with
      | zero => intro k s k0 s1 hk hk; exact absurd hk (Nat.not_lt_zero _)
      | succ kk ih_21 =>
        intro k s k0 s1 hk hk_21
        refine x_iload_n ho 0 d_MO_isSameWord_21 rfl ?_
        refine x_aload_n ho 2 d_MO_isSameWord_22 rfl ?_
        refine x_callV (rest := [zV k]) ho d_MO_isSameWord_23 yv_MO_length g_862 g_31 g_861 (c_MO_length M.2.1 D m kp fl fo di ty az v ) rfl rfl ⟨Nat.le_of_ble_eq_true rfl, Nat.le_of_ble_eq_true rfl⟩ ⟨Nat.le_of_ble_eq_true rfl, Nat.le_of_ble_eq_true rfl⟩ rfl rfl (Nat.le_of_ble_eq_true rfl) t_o rfl rfl ⟨t_o, t_n⟩ fr_none' (x_rd (fun v_4 hv_4 => ?_))
        obtain ⟨rfl, lb_6⟩ := hv_4
        show X _ _ _ _ _ _ _ _ _ [zV ((v.2.1.length : Int)), zV k] _
        refine x_icmp_ge (tgt := 61) ho d_MO_isSameWord_26 (by decide) (by omega) (by omega) (fun c_26 => ?_) (fun c_26 => ?_)
        ·
          refine x_iload_n ho 1 d_MO_isSameWord_61 rfl ?_
          refine x_eqI (b := bI (w = v.2.1)) (by rcases hk with h | h; rw [bI_t (li_ext h.2.1 (fun j a b => h.2.2 j a (by omega)))]; exact h.1; rw [bI_f h.2]; exact h.1) ?_
          refine x_zret ho hr (bI_01 _) d_MO_isSameWord_62 ?_
          exact rfl
        ·
          refine x_iload_n ho 1 d_MO_isSameWord_29 rfl ?_
          refine x_if_eq (tgt := 61) ho d_MO_isSameWord_30 (by decide) (by omega) (fun c_30 => ?_) (fun c_30 => ?_)
          ·
            refine x_iload_n ho 1 d_MO_isSameWord_61 rfl ?_
            refine x_eqI (b := bI (w = v.2.1)) (by rcases hk with h | h; omega; rw [bI_f h.2]; exact h.1) ?_
            refine x_zret ho hr (bI_01 _) d_MO_isSameWord_62 ?_
            exact rfl
          ·
            refine x_aload_n ho 2 d_MO_isSameWord_33 rfl ?_
            refine x_get 5 ho d_MO_isSameWord_34 cl_MO (by decide) g_762 t_o rfl ?_
            refine x_iconst ho d_MO_isSameWord_37 ?_
            refine x_iload_n ho 0 d_MO_isSameWord_38 rfl ?_
            refine x_iadd ho d_MO_isSameWord_39 ?_
            have h_1 : s = 1 := by omega
            have h_2 : (w.length : Int) = (v.2.1.length : Int) ∧ ∀ j : Int, 0 ≤ j → j < k → gA w j = gA v.2.1 j := by rcases hk with h | h; exact h.2; omega
            have h_4 := gA_r hw.2 k
            refine x_iald ho d_MO_isSameWord_40 t_t (by omega) (by omega) (by omega) ?_
            refine x_eqI (b := gA w k) (by exact ht.2 k (by omega) (by omega)) ?_
            refine x_aload_n ho 2 d_MO_isSameWord_41 rfl ?_
            refine x_iload_n ho 0 d_MO_isSameWord_42 rfl ?_
            refine x_callV (rest := [zV (gA w k)]) ho d_MO_isSameWord_43 yv_MO_word g_865 g_32 g_864 (c_MO_word M.2.1 D m kp fl fo di ty az v k (by omega)) rfl rfl ⟨Nat.le_of_ble_eq_true rfl, Nat.le_of_ble_eq_true rfl⟩ ⟨Nat.le_of_ble_eq_true rfl, Nat.le_of_ble_eq_true rfl⟩ rfl rfl (Nat.le_of_ble_eq_true rfl) t_o rfl rfl ⟨t_o, t_n⟩ fr_none' (x_rd (fun v_7 hv_7 => ?_))
            obtain ⟨rfl, gb_9⟩ := hv_7
            show X _ _ _ _ _ _ _ _ _ [zV (gA v.2.1 k), zV (gA w k)] _
            refine x_icmp_ne (tgt := 53) ho d_MO_isSameWord_46 (by decide) (by omega) (by omega) (fun c_46 => ?_) (fun c_46 => ?_)
            ·
              refine x_iconst ho d_MO_isSameWord_53 ?_
              refine x_istore_n (L' := [(1, zV 0), (2, zV k), (0, .ref m)]) ho d_MO_isSameWord_54 (by decide) rfl ?_
              refine x_iinc (L' := [(2, zV (k + 1)), (1, zV 0), (0, .ref m)]) ho 1 d_MO_isSameWord_55 rfl rfl (by decide) rfl ?_
              refine x_goto (tgt := 21) ho d_MO_isSameWord_58 (by decide) ?_
              exact ih_21 (k + 1) 0 (by omega) (by omega) (by exact Or.inr ⟨rfl, fun q => c_46 (by rw [q])⟩) (by omega)
            ·
              refine x_iconst ho d_MO_isSameWord_49 ?_
              refine x_goto (tgt := 54) ho d_MO_isSameWord_50 (by decide) ?_
              refine x_istore_n (L' := [(1, zV 1), (2, zV k), (0, .ref m)]) ho d_MO_isSameWord_54 (by decide) rfl ?_
              refine x_iinc (L' := [(2, zV (k + 1)), (1, zV 1), (0, .ref m)]) ho 1 d_MO_isSameWord_55 rfl rfl (by decide) rfl ?_
              refine x_goto (tgt := 21) ho d_MO_isSameWord_58 (by decide) ?_
              exact ih_21 (k + 1) 1 (by omega) (by omega) (by exact Or.inl ⟨rfl, h_2.1, fun j a b => by rcases (show j < k ∨ j = k by omega) with z | z; exact h_2.2 j a z; rw [z]; exact c_46⟩) (by omega)
    exact loop_21 _ 0 0 (by omega) (by omega) (by exact Or.inr ⟨rfl, fun q => c_10 (by rw [q])⟩) (Nat.lt_succ_self _)
  ·
    refine x_iconst ho d_MO_isSameWord_13 ?_
    refine x_goto (tgt := 18) ho d_MO_isSameWord_14 (by decide) ?_
    refine x_istore_n (L' := [(1, zV 1), (0, .ref m)]) ho d_MO_isSameWord_18 (by decide) rfl ?_
    refine x_iconst ho d_MO_isSameWord_19 ?_
    refine x_istore_n (L' := [(2, zV 0), (1, zV 1), (0, .ref m)]) ho d_MO_isSameWord_20 (by decide) rfl ?_
    have loop_21 : ∀ (kk : Nat) (k : Int) (s : Int) (k0 : 0 ≤ k ∧ k ≤ (v.2.1.length : Int)) (s1 : s = 0 ∨ s = 1) (hk : (s = 1 ∧ (w.length : Int) = (v.2.1.length : Int) ∧ ∀ j : Int, 0 ≤ j → j < k → gA w j = gA v.2.1 j) ∨ (s = 0 ∧ ¬ w = v.2.1)), ((v.2.1.length : Int) - k).toNat < kk → X M ({ frames := 1, cells := 0, slots := 0, locals := 21 } : Room) 3 nA 0 0 (Qof M nA (q_MO_isSameWord D m kp fl fo di ty az v t w) 0 0) 21 [(2, zV k), (1, zV s), (0, .ref m)] [] H := by
      intro kk
      induction kk with
      | zero => intro k s k0 s1 hk hk; exact absurd hk (Nat.not_lt_zero _)
      | succ kk ih_21 =>
        intro k s k0 s1 hk hk_21
        refine x_iload_n ho 0 d_MO_isSameWord_21 rfl ?_
        refine x_aload_n ho 2 d_MO_isSameWord_22 rfl ?_
        refine x_callV (rest := [zV k]) ho d_MO_isSameWord_23 yv_MO_length g_862 g_31 g_861 (c_MO_length M.2.1 D m kp fl fo di ty az v ) rfl rfl ⟨Nat.le_of_ble_eq_true rfl, Nat.le_of_ble_eq_true rfl⟩ ⟨Nat.le_of_ble_eq_true rfl, Nat.le_of_ble_eq_true rfl⟩ rfl rfl (Nat.le_of_ble_eq_true rfl) t_o rfl rfl ⟨t_o, t_n⟩ fr_none' (x_rd (fun v_10 hv_10 => ?_))
        obtain ⟨rfl, lb_12⟩ := hv_10
        show X _ _ _ _ _ _ _ _ _ [zV ((v.2.1.length : Int)), zV k] _
        refine x_icmp_ge (tgt := 61) ho d_MO_isSameWord_26 (by decide) (by omega) (by omega) (fun c_26 => ?_) (fun c_26 => ?_)
        ·
          refine x_iload_n ho 1 d_MO_isSameWord_61 rfl ?_
          refine x_eqI (b := bI (w = v.2.1)) (by rcases hk with h | h; rw [bI_t (li_ext h.2.1 (fun j a b => h.2.2 j a (by omega)))]; exact h.1; rw [bI_f h.2]; exact h.1) ?_
          refine x_zret ho hr (bI_01 _) d_MO_isSameWord_62 ?_
          exact rfl
        ·
          refine x_iload_n ho 1 d_MO_isSameWord_29 rfl ?_
          refine x_if_eq (tgt := 61) ho d_MO_isSameWord_30 (by decide) (by omega) (fun c_30 => ?_) (fun c_30 => ?_)
          ·
            refine x_iload_n ho 1 d_MO_isSameWord_61 rfl ?_
            refine x_eqI (b := bI (w = v.2.1)) (by rcases hk with h | h; omega; rw [bI_f h.2]; exact h.1) ?_
            refine x_zret ho hr (bI_01 _) d_MO_isSameWord_62 ?_
            exact rfl
          ·
            refine x_aload_n ho 2 d_MO_isSameWord_33 rfl ?_
            refine x_get 5 ho d_MO_isSameWord_34 cl_MO (by decide) g_762 t_o rfl ?_
            refine x_iconst ho d_MO_isSameWord_37 ?_
            refine x_iload_n ho 0 d_MO_isSameWord_38 rfl ?_
            refine x_iadd ho d_MO_isSameWord_39 ?_
            have h_1 : s = 1 := by omega
            have h_2 : (w.length : Int) = (v.2.1.length : Int) ∧ ∀ j : Int, 0 ≤ j → j < k → gA w j = gA v.2.1 j := by rcases hk with h | h; exact h.2; omega
            have h_4 := gA_r hw.2 k
            refine x_iald ho d_MO_isSameWord_40 t_t (by omega) (by omega) (by omega) ?_
            refine x_eqI (b := gA w k) (by exact ht.2 k (by omega) (by omega)) ?_
            refine x_aload_n ho 2 d_MO_isSameWord_41 rfl ?_
            refine x_iload_n ho 0 d_MO_isSameWord_42 rfl ?_
            refine x_callV (rest := [zV (gA w k)]) ho d_MO_isSameWord_43 yv_MO_word g_865 g_32 g_864 (c_MO_word M.2.1 D m kp fl fo di ty az v k (by omega)) rfl rfl ⟨Nat.le_of_ble_eq_true rfl, Nat.le_of_ble_eq_true rfl⟩ ⟨Nat.le_of_ble_eq_true rfl, Nat.le_of_ble_eq_true rfl⟩ rfl rfl (Nat.le_of_ble_eq_true rfl) t_o rfl rfl ⟨t_o, t_n⟩ fr_none' (x_rd (fun v_13 hv_13 => ?_))
            obtain ⟨rfl, gb_15⟩ := hv_13
            show X _ _ _ _ _ _ _ _ _ [zV (gA v.2.1 k), zV (gA w k)] _
            refine x_icmp_ne (tgt := 53) ho d_MO_isSameWord_46 (by decide) (by omega) (by omega) (fun c_46 => ?_) (fun c_46 => ?_)
            ·
              refine x_iconst ho d_MO_isSameWord_53 ?_
              refine x_istore_n (L' := [(1, zV 0), (2, zV k), (0, .ref m)]) ho d_MO_isSameWord_54 (by decide) rfl ?_
              refine x_iinc (L' := [(2, zV (k + 1)), (1, zV 0), (0, .ref m)]) ho 1 d_MO_isSameWord_55 rfl rfl (by decide) rfl ?_
              refine x_goto (tgt := 21) ho d_MO_isSameWord_58 (by decide) ?_
              exact ih_21 (k + 1) 0 (by omega) (by omega) (by exact Or.inr ⟨rfl, fun q => c_46 (by rw [q])⟩) (by omega)
            ·
              refine x_iconst ho d_MO_isSameWord_49 ?_
              refine x_goto (tgt := 54) ho d_MO_isSameWord_50 (by decide) ?_
              refine x_istore_n (L' := [(1, zV 1), (2, zV k), (0, .ref m)]) ho d_MO_isSameWord_54 (by decide) rfl ?_
              refine x_iinc (L' := [(2, zV (k + 1)), (1, zV 1), (0, .ref m)]) ho 1 d_MO_isSameWord_55 rfl rfl (by decide) rfl ?_
              refine x_goto (tgt := 21) ho d_MO_isSameWord_58 (by decide) ?_
              exact ih_21 (k + 1) 1 (by omega) (by omega) (by exact Or.inl ⟨rfl, h_2.1, fun j a b => by rcases (show j < k ∨ j = k by omega) with z | z; exact h_2.2 j a z; rw [z]; exact c_46⟩) (by omega)
    exact loop_21 _ 0 1 (by omega) (by omega) (by exact Or.inl ⟨rfl, c_10, fun j a b => by omega⟩) (Nat.lt_succ_self _)
def q_MO_laysWord (D : GG) (m : Nat) (kp : Int) (fl : Int) (fo : Int) (di : Int) (ty : Int) (az : Int) (v : SV) (t : Int → Int) (w : List Int) : Option Value → Heap → Prop := fun v0 H => v0 = none ∧ At D H m (oO 11 [.ref (m + 1), .ref (m + 2), zV kp, .ref (m + 3), zV fl, .ref (m + 4), .ref (m + 5), .ref (m + 6), zV fo, .ref (m + 7), zV di, zV ty, .ref (m + 8), zV az, .ref (m + 9), .ref (m + 10), .ref (m + 11)]) ∧ isN D H (m + 1) (v.1, w, v.2.2) ∧ At D H (m + 4) (oI D 301 t)
theorem yv_MO_laysWord : Yv y_MO_laysWord b_MO_laysWord 2 (Option.none : Option FieldType) 0 := ⟨g_886, g_65, by decide, by decide +kernel⟩
set_option maxHeartbeats 4000000 in
set_option maxRecDepth 100000 in
theorem c_MO_laysWord (l0 : Launch) (D : GG) (m : Nat) (kp : Int) (fl : Int) (fo : Int) (di : Int) (ty : Int) (az : Int) (v : SV) (t : Int → Int) (w : List Int) (ht : rpW t 0 1 w) (hw : 1 ≤ (w.length : Int) ∧ (w.length : Int) ≤ 300 ∧ wf w) : Ct l0 D y_MO_laysWord b_MO_laysWord 2 (Option.none : Option FieldType) ({ frames := 0, cells := 0, slots := 0, locals := 0 } : Room) [.ref m] (fun H => At D H m (oO 11 [.ref (m + 1), .ref (m + 2), zV kp, .ref (m + 3), zV fl, .ref (m + 4), .ref (m + 5), .ref (m + 6), zV fo, .ref (m + 7), zV di, zV ty, .ref (m + 8), zV az, .ref (m + 9), .ref (m + 10), .ref (m + 11)]) ∧ isN D H (m + 1) v ∧ At D H (m + 4) (oI D 301 t)) (rA (m + 1) (m + 2)) 0 0 (q_MO_laysWord D m kp fl fo di ty az v t w) := by
  refine Ct.of (L := [(0, .ref m)]) (by decide) (Nat.le_of_ble_eq_true rfl) rfl (fun M H ho hr hnm hH hpre => ?_)
  obtain ⟨t_o, t_n, t_t⟩ := hpre
  obtain ⟨n_f, n_a, n_r, n_o⟩ := id t_n
  have n_1 := n_o.1
  have n_2 := n_o.2.1
  have n_3 := n_o.2.2
  refine x_iconst ho d_MO_laysWord_0 ?_
  refine x_istore_n (L' := [(1, zV 0), (0, .ref m)]) ho d_MO_laysWord_1 (by decide) rfl ?_
  have loop_2 : ∀ (kk : Nat) (x : Int) (H_1 : Heap) (l_o : At D H_1 m (oO 11 [.ref (m + 1), .ref (m + 2), zV kp, .ref (m + 3), zV fl, .ref (m + 4), .ref (m + 5), .ref (m + 6), zV fo, .ref (m + 7), zV di, zV ty, .ref (m + 8), zV az, .ref (m + 9), .ref (m + 10), .ref (m + 11)])) (l_t : At D H_1 (m + 4) (oI D 301 t)) (l_d : At D H_1 (m + 1) (oI D 358 (zC t n_f 0 36 x))) (x0 : 0 ≤ x ∧ x ≤ (w.length : Int) + 1), ((w.length : Int) + 1 - x).toNat < kk → X M ({ frames := 0, cells := 0, slots := 0, locals := 0 } : Room) 2 (rA (m + 1) (m + 2)) 0 0 (Qof M (rA (m + 1) (m + 2)) (q_MO_laysWord D m kp fl fo di ty az v t w) 0 0) 2 [(1, zV x), (0, .ref m)] [] H_1 := by
    intro kk
    induction kk with
    | zero => intro x H_1 l_o l_t l_d x0 hk; exact absurd hk (Nat.not_lt_zero _)
    | succ kk ih_2 =>
      intro x H_1 l_o l_t l_d x0 hk_2
      refine x_iload_n ho 0 d_MO_laysWord_2 rfl ?_
      refine x_aload_n ho 1 d_MO_laysWord_3 rfl ?_
      refine x_get 5 ho d_MO_laysWord_4 cl_MO (by decide) g_762 l_o rfl ?_
      refine x_iconst ho d_MO_laysWord_7 ?_
      refine x_iald ho d_MO_laysWord_8 l_t (by omega) (by omega) (by omega) ?_
      refine x_eqI (b := (w.length : Int)) (by exact ht.1) ?_
      refine x_icmp_gt (tgt := 33) ho d_MO_laysWord_9 (by decide) (by omega) (by omega) (fun c_9 => ?_) (fun c_9 => ?_)
      ·
        refine x_vret ho hr d_MO_laysWord_33 ?_
        exact ⟨rfl, l_o, ⟨_, l_d, rp_layW ht hw.2.1 n_1 n_r (by omega), n_1, hw, n_3⟩, l_t⟩
      ·
        refine x_aload_n ho 1 d_MO_laysWord_12 rfl ?_
        refine x_get 0 ho d_MO_laysWord_13 cl_MO (by decide) g_757 l_o rfl ?_
        refine x_bipush (z := 36) ho d_MO_laysWord_16 (by decide) ?_
        refine x_iload_n ho 0 d_MO_laysWord_18 rfl ?_
        refine x_iadd ho d_MO_laysWord_19 ?_
        refine x_aload_n ho 1 d_MO_laysWord_20 rfl ?_
        refine x_get 5 ho d_MO_laysWord_21 cl_MO (by decide) g_762 l_o rfl ?_
        refine x_iload_n ho 0 d_MO_laysWord_24 rfl ?_
        refine x_iald ho d_MO_laysWord_25 l_t (by omega) (by omega) (by omega) ?_
        refine x_iast ho d_MO_laysWord_26 l_d (by omega) (by omega) (by omega) (rA_in (by omega) (by omega)) (fun H_2 p_3 z_4 q_5 => ?_)
        have k_6 := l_o.kept (q_5 _ (by omega))
        have k_7 := l_t.kept (q_5 _ (by omega))
        refine x_iinc (L' := [(1, zV (x + 1)), (0, .ref m)]) ho 0 d_MO_laysWord_27 rfl rfl (by decide) rfl ?_
        refine x_goto (tgt := 2) ho d_MO_laysWord_30 (by decide) ?_
        exact ih_2 (x + 1) H_2 k_6 k_7 (zC_at p_3 (by omega) (by omega) (by first | rfl | (congr 1; omega))) (by omega) (by omega)
  exact loop_2 _ 0 H t_o t_t (by rw [zC_0]; exact n_a) (by omega) (Nat.lt_succ_self _)
def q_MO_takesWord (D : GG) (m : Nat) (kp : Int) (fl : Int) (fo : Int) (di : Int) (ty : Int) (az : Int) (v : SV) (t : Int → Int) : Option Value → Heap → Prop := fun v0 H => ∃ (t1 : Int → Int), v0 = none ∧ rpW t1 0 1 v.2.1 ∧ At D H m (oO 11 [.ref (m + 1), .ref (m + 2), zV kp, .ref (m + 3), zV fl, .ref (m + 4), .ref (m + 5), .ref (m + 6), zV fo, .ref (m + 7), zV di, zV ty, .ref (m + 8), zV az, .ref (m + 9), .ref (m + 10), .ref (m + 11)]) ∧ isN D H (m + 1) v ∧ At D H (m + 4) (oI D 301 t1)
theorem yv_MO_takesWord : Yv y_MO_takesWord b_MO_takesWord 2 (Option.none : Option FieldType) 0 := ⟨g_877, g_65, by decide, by decide +kernel⟩
set_option maxHeartbeats 4000000 in
set_option maxRecDepth 100000 in
theorem c_MO_takesWord (l0 : Launch) (D : GG) (m : Nat) (kp : Int) (fl : Int) (fo : Int) (di : Int) (ty : Int) (az : Int) (v : SV) (t : Int → Int)  : Ct l0 D y_MO_takesWord b_MO_takesWord 2 (Option.none : Option FieldType) ({ frames := 1, cells := 0, slots := 0, locals := 20 } : Room) [.ref m] (fun H => At D H m (oO 11 [.ref (m + 1), .ref (m + 2), zV kp, .ref (m + 3), zV fl, .ref (m + 4), .ref (m + 5), .ref (m + 6), zV fo, .ref (m + 7), zV di, zV ty, .ref (m + 8), zV az, .ref (m + 9), .ref (m + 10), .ref (m + 11)]) ∧ isN D H (m + 1) v ∧ At D H (m + 4) (oI D 301 t)) (rA (m + 4) (m + 5)) 0 0 (q_MO_takesWord D m kp fl fo di ty az v t) := by
  refine Ct.of (L := [(0, .ref m)]) (by decide) (Nat.le_of_ble_eq_true rfl) rfl (fun M H ho hr hnm hH hpre => ?_)
  obtain ⟨t_o, t_n, t_t⟩ := hpre
  obtain ⟨n_f, n_a, n_r, n_o⟩ := id t_n
  have n_1 := n_o.1
  have n_2 := n_o.2.1
  have n_3 := n_o.2.2
  refine x_iconst ho d_MO_takesWord_0 ?_
  refine x_istore_n (L' := [(1, zV 0), (0, .ref m)]) ho d_MO_takesWord_1 (by decide) rfl ?_
  have loop_2 : ∀ (kk : Nat) (x : Int) (H_1 : Heap) (l_o : At D H_1 m (oO 11 [.ref (m + 1), .ref (m + 2), zV kp, .ref (m + 3), zV fl, .ref (m + 4), .ref (m + 5), .ref (m + 6), zV fo, .ref (m + 7), zV di, zV ty, .ref (m + 8), zV az, .ref (m + 9), .ref (m + 10), .ref (m + 11)])) (l_n : isN D H_1 (m + 1) v) (l_a : At D H_1 (m + 1) (oI D 358 n_f)) (l_d : At D H_1 (m + 4) (oI D 301 (zC n_f t 36 0 x))) (x0 : 0 ≤ x ∧ x ≤ (v.2.1.length : Int) + 1), ((v.2.1.length : Int) + 1 - x).toNat < kk → X M ({ frames := 1, cells := 0, slots := 0, locals := 20 } : Room) 2 (rA (m + 4) (m + 5)) 0 0 (Qof M (rA (m + 4) (m + 5)) (q_MO_takesWord D m kp fl fo di ty az v t) 0 0) 2 [(1, zV x), (0, .ref m)] [] H_1 := by
    intro kk
    induction kk with
    | zero => intro x H_1 l_o l_n l_a l_d x0 hk; exact absurd hk (Nat.not_lt_zero _)
    | succ kk ih_2 =>
      intro x H_1 l_o l_n l_a l_d x0 hk_2
      refine x_iload_n ho 0 d_MO_takesWord_2 rfl ?_
      refine x_aload_n ho 1 d_MO_takesWord_3 rfl ?_
      refine x_callV (rest := [zV x]) ho d_MO_takesWord_4 yv_MO_length g_862 g_31 g_861 (c_MO_length M.2.1 D m kp fl fo di ty az v ) rfl rfl ⟨Nat.le_of_ble_eq_true rfl, Nat.le_of_ble_eq_true rfl⟩ ⟨Nat.le_of_ble_eq_true rfl, Nat.le_of_ble_eq_true rfl⟩ rfl rfl (Nat.le_of_ble_eq_true rfl) l_o rfl rfl ⟨l_o, l_n⟩ fr_none' (x_rd (fun v_2 hv_2 => ?_))
      obtain ⟨rfl, lb_4⟩ := hv_2
      show X _ _ _ _ _ _ _ _ _ [zV ((v.2.1.length : Int)), zV x] _
      refine x_icmp_gt (tgt := 31) ho d_MO_takesWord_7 (by decide) (by omega) (by omega) (fun c_7 => ?_) (fun c_7 => ?_)
      ·
        refine x_vret ho hr d_MO_takesWord_31 ?_
        exact ⟨_, rfl, rp_takeW n_r (show x = (v.2.1.length : Int) + 1 by omega), l_o, l_n, l_d⟩
      ·
        refine x_aload_n ho 1 d_MO_takesWord_10 rfl ?_
        refine x_get 5 ho d_MO_takesWord_11 cl_MO (by decide) g_762 l_o rfl ?_
        refine x_iload_n ho 0 d_MO_takesWord_14 rfl ?_
        refine x_aload_n ho 1 d_MO_takesWord_15 rfl ?_
        refine x_get 0 ho d_MO_takesWord_16 cl_MO (by decide) g_757 l_o rfl ?_
        refine x_bipush (z := 36) ho d_MO_takesWord_19 (by decide) ?_
        refine x_iload_n ho 0 d_MO_takesWord_21 rfl ?_
        refine x_iadd ho d_MO_takesWord_22 ?_
        refine x_iald ho d_MO_takesWord_23 l_a (by omega) (by omega) (by omega) ?_
        refine x_iast ho d_MO_takesWord_24 l_d (by omega) (by omega) (by omega) (rA_in (by omega) (by omega)) (fun H_5 p_6 z_7 q_8 => ?_)
        have k_9 := l_o.kept (q_8 _ (by omega))
        have k_10 := l_n.kept (q_8 _ (by omega))
        have k_11 := l_a.kept (q_8 _ (by omega))
        refine x_iinc (L' := [(1, zV (x + 1)), (0, .ref m)]) ho 0 d_MO_takesWord_25 rfl rfl (by decide) rfl ?_
        refine x_goto (tgt := 2) ho d_MO_takesWord_28 (by decide) ?_
        exact ih_2 (x + 1) H_5 k_9 k_10 k_11 (zC_at p_6 (by omega) (by omega) (by first | rfl | (congr 1; omega))) (by omega) (by omega)
  exact loop_2 _ 0 H t_o t_n n_a (by rw [zC_0]; exact t_t) (by omega) (Nat.lt_succ_self _)
