def q_MO_isSamePiece (D : GG) (m : Nat) (kp : Int) (fl : Int) (fo : Int) (di : Int) (ty : Int) (az : Int) (v : SV) (a : Int) (b : Int) (n : Int) : Option Value → Heap → Prop := fun v0 H => v0 = some (zV (bI (eqP v.2.1 a b n)))
theorem yv_MO_isSamePiece : Yv y_MO_isSamePiece b_MO_isSamePiece 6 (Option.some FieldType.boolean) 3 := ⟨g_981, g_65, by decide, by decide +kernel⟩
set_option maxHeartbeats 4000000 in
set_option maxRecDepth 100000 in
theorem c_MO_isSamePiece (l0 : Launch) (D : GG) (m : Nat) (kp : Int) (fl : Int) (fo : Int) (di : Int) (ty : Int) (az : Int) (v : SV) (a : Int) (b : Int) (n : Int) (hn : 0 ≤ n) (ha : 0 ≤ a ∧ a + n ≤ (v.2.1.length : Int)) (hb : 0 ≤ b ∧ b + n ≤ (v.2.1.length : Int)) : Ct l0 D y_MO_isSamePiece b_MO_isSamePiece 6 (Option.some FieldType.boolean) ({ frames := 1, cells := 0, slots := 0, locals := 21 } : Room) [.ref m, zV a, zV b, zV n] (fun H => At D H m (oO 11 [.ref (m + 1), .ref (m + 2), zV kp, .ref (m + 3), zV fl, .ref (m + 4), .ref (m + 5), .ref (m + 6), zV fo, .ref (m + 7), zV di, zV ty, .ref (m + 8), zV az, .ref (m + 9), .ref (m + 10), .ref (m + 11)]) ∧ isN D H (m + 1) v) nA 0 0 (q_MO_isSamePiece D m kp fl fo di ty az v a b n) := by
  refine Ct.of (L := [(0, .ref m), (1, zV a), (2, zV b), (3, zV n)]) (by decide) (Nat.le_of_ble_eq_true rfl) rfl (fun M H ho hr hnm hH hpre => ?_)
  obtain ⟨t_o, t_n⟩ := hpre
  obtain ⟨n_f, n_a, n_r, n_o⟩ := id t_n
  have n_1 := n_o.1
  have n_2 := n_o.2.1
  have n_3 := n_o.2.2
  refine x_iconst ho d_MO_isSamePiece_0 ?_
  refine x_istore (L' := [(4, zV 1), (0, .ref m), (1, zV a), (2, zV b), (3, zV n)]) ho d_MO_isSamePiece_1 (by decide) rfl ?_
  refine x_iconst ho d_MO_isSamePiece_3 ?_
  refine x_istore (L' := [(5, zV 0), (4, zV 1), (0, .ref m), (1, zV a), (2, zV b), (3, zV n)]) ho d_MO_isSamePiece_4 (by decide) rfl ?_
  have loop_6 : ∀ (kk : Nat) (k : Int) (s : Int) (k0 : 0 ≤ k ∧ k ≤ n) (s1 : s = 0 ∨ s = 1) (hk : (s = 1 ∧ ∀ j : Int, 0 ≤ j → j < k → gA v.2.1 (a + j) = gA v.2.1 (b + j)) ∨ (s = 0 ∧ ¬ eqP v.2.1 a b n)), (n - k).toNat < kk → X M ({ frames := 1, cells := 0, slots := 0, locals := 21 } : Room) 6 nA 0 0 (Qof M nA (q_MO_isSamePiece D m kp fl fo di ty az v a b n) 0 0) 6 [(5, zV k), (4, zV s), (0, .ref m), (1, zV a), (2, zV b), (3, zV n)] [] H := by
    intro kk
    induction kk with
    | zero => intro k s k0 s1 hk hk; exact absurd hk (Nat.not_lt_zero _)
    | succ kk ih_6 =>
      intro k s k0 s1 hk hk_6
      refine x_iload ho 0 d_MO_isSamePiece_6 rfl ?_
      refine x_iload_n ho 5 d_MO_isSamePiece_8 rfl ?_
      refine x_icmp_ge (tgt := 49) ho d_MO_isSamePiece_9 (by decide) (by omega) (by omega) (fun c_9 => ?_) (fun c_9 => ?_)
      ·
        refine x_iload ho 1 d_MO_isSamePiece_49 rfl ?_
        refine x_eqI (b := bI (eqP v.2.1 a b n)) (by rcases hk with h | h; rw [bI_t (P := eqP v.2.1 a b n) (fun j p q => h.2 j p (by omega))]; exact h.1; rw [bI_f h.2]; exact h.1) ?_
        refine x_zret ho hr (bI_01 _) d_MO_isSamePiece_51 ?_
        exact rfl
      ·
        refine x_iload ho 1 d_MO_isSamePiece_12 rfl ?_
        refine x_if_eq (tgt := 49) ho d_MO_isSamePiece_14 (by decide) (by omega) (fun c_14 => ?_) (fun c_14 => ?_)
        ·
          refine x_iload ho 1 d_MO_isSamePiece_49 rfl ?_
          refine x_eqI (b := bI (eqP v.2.1 a b n)) (by rcases hk with h | h; omega; rw [bI_f h.2]; exact h.1) ?_
          refine x_zret ho hr (bI_01 _) d_MO_isSamePiece_51 ?_
          exact rfl
        ·
          have h_1 : s = 1 := by omega
          have h_2 : ∀ j : Int, 0 ≤ j → j < k → gA v.2.1 (a + j) = gA v.2.1 (b + j) := by rcases hk with h | h; exact h.2; omega
          refine x_aload_n ho 2 d_MO_isSamePiece_17 rfl ?_
          refine x_iload_n ho 3 d_MO_isSamePiece_18 rfl ?_
          refine x_iload ho 0 d_MO_isSamePiece_19 rfl ?_
          refine x_iadd ho d_MO_isSamePiece_21 ?_
          refine x_callV (rest := []) ho d_MO_isSamePiece_22 yv_MO_word g_865 g_32 g_864 (c_MO_word M.2.1 D m kp fl fo di ty az v (a + k) (by omega)) rfl rfl ⟨Nat.le_of_ble_eq_true rfl, Nat.le_of_ble_eq_true rfl⟩ ⟨Nat.le_of_ble_eq_true rfl, Nat.le_of_ble_eq_true rfl⟩ rfl rfl (Nat.le_of_ble_eq_true rfl) t_o rfl rfl ⟨t_o, t_n⟩ fr_none' (x_rd (fun v_1 hv_1 => ?_))
          obtain ⟨rfl, gb_3⟩ := hv_1
          show X _ _ _ _ _ _ _ _ _ [zV (gA v.2.1 (a + k))] _
          refine x_aload_n ho 2 d_MO_isSamePiece_25 rfl ?_
          refine x_iload_n ho 4 d_MO_isSamePiece_26 rfl ?_
          refine x_iload ho 0 d_MO_isSamePiece_27 rfl ?_
          refine x_iadd ho d_MO_isSamePiece_29 ?_
          refine x_callV (rest := [zV (gA v.2.1 (a + k))]) ho d_MO_isSamePiece_30 yv_MO_word g_865 g_32 g_864 (c_MO_word M.2.1 D m kp fl fo di ty az v (b + k) (by omega)) rfl rfl ⟨Nat.le_of_ble_eq_true rfl, Nat.le_of_ble_eq_true rfl⟩ ⟨Nat.le_of_ble_eq_true rfl, Nat.le_of_ble_eq_true rfl⟩ rfl rfl (Nat.le_of_ble_eq_true rfl) t_o rfl rfl ⟨t_o, t_n⟩ fr_none' (x_rd (fun v_4 hv_4 => ?_))
          obtain ⟨rfl, gb_6⟩ := hv_4
          show X _ _ _ _ _ _ _ _ _ [zV (gA v.2.1 (b + k)), zV (gA v.2.1 (a + k))] _
          refine x_icmp_ne (tgt := 40) ho d_MO_isSamePiece_33 (by decide) (by omega) (by omega) (fun c_33 => ?_) (fun c_33 => ?_)
          ·
            refine x_iconst ho d_MO_isSamePiece_40 ?_
            refine x_istore (L' := [(4, zV 0), (5, zV k), (0, .ref m), (1, zV a), (2, zV b), (3, zV n)]) ho d_MO_isSamePiece_41 (by decide) rfl ?_
            refine x_iinc (L' := [(5, zV (k + 1)), (4, zV 0), (0, .ref m), (1, zV a), (2, zV b), (3, zV n)]) ho 1 d_MO_isSamePiece_43 rfl rfl (by decide) rfl ?_
            refine x_goto (tgt := 6) ho d_MO_isSamePiece_46 (by decide) ?_
            exact ih_6 (k + 1) 0 (by omega) (by omega) (by exact Or.inr ⟨rfl, fun q => c_33 (q k (by omega) (by omega))⟩) (by omega)
          ·
            refine x_iconst ho d_MO_isSamePiece_36 ?_
            refine x_goto (tgt := 41) ho d_MO_isSamePiece_37 (by decide) ?_
            refine x_istore (L' := [(4, zV 1), (5, zV k), (0, .ref m), (1, zV a), (2, zV b), (3, zV n)]) ho d_MO_isSamePiece_41 (by decide) rfl ?_
            refine x_iinc (L' := [(5, zV (k + 1)), (4, zV 1), (0, .ref m), (1, zV a), (2, zV b), (3, zV n)]) ho 1 d_MO_isSamePiece_43 rfl rfl (by decide) rfl ?_
            refine x_goto (tgt := 6) ho d_MO_isSamePiece_46 (by decide) ?_
            exact ih_6 (k + 1) 1 (by omega) (by omega) (by exact Or.inl ⟨rfl, fun j p q => by rcases (show j < k ∨ j = k by omega) with z | z; exact h_2 j p z; rw [z]; exact c_33⟩) (by omega)
  exact loop_6 _ 0 1 (by omega) (by omega) (by exact Or.inl ⟨rfl, fun j p q => by omega⟩) (Nat.lt_succ_self _)
def q_MO_isMirrored (D : GG) (m : Nat) (kp : Int) (fl : Int) (fo : Int) (di : Int) (ty : Int) (az : Int) (v : SV) (a : Int) (n : Int) : Option Value → Heap → Prop := fun v0 H => v0 = some (zV (bI (mir v.2.1 a n)))
theorem yv_MO_isMirrored : Yv y_MO_isMirrored b_MO_isMirrored 5 (Option.some FieldType.boolean) 2 := ⟨g_984, g_65, by decide, by decide +kernel⟩
set_option maxHeartbeats 4000000 in
set_option maxRecDepth 100000 in
theorem c_MO_isMirrored (l0 : Launch) (D : GG) (m : Nat) (kp : Int) (fl : Int) (fo : Int) (di : Int) (ty : Int) (az : Int) (v : SV) (a : Int) (n : Int) (hn : 0 ≤ n) (ha : 0 ≤ a ∧ a + n ≤ (v.2.1.length : Int)) : Ct l0 D y_MO_isMirrored b_MO_isMirrored 5 (Option.some FieldType.boolean) ({ frames := 1, cells := 0, slots := 0, locals := 21 } : Room) [.ref m, zV a, zV n] (fun H => At D H m (oO 11 [.ref (m + 1), .ref (m + 2), zV kp, .ref (m + 3), zV fl, .ref (m + 4), .ref (m + 5), .ref (m + 6), zV fo, .ref (m + 7), zV di, zV ty, .ref (m + 8), zV az, .ref (m + 9), .ref (m + 10), .ref (m + 11)]) ∧ isN D H (m + 1) v) nA 0 0 (q_MO_isMirrored D m kp fl fo di ty az v a n) := by
  refine Ct.of (L := [(0, .ref m), (1, zV a), (2, zV n)]) (by decide) (Nat.le_of_ble_eq_true rfl) rfl (fun M H ho hr hnm hH hpre => ?_)
  obtain ⟨t_o, t_n⟩ := hpre
  obtain ⟨n_f, n_a, n_r, n_o⟩ := id t_n
  have n_1 := n_o.1
  have n_2 := n_o.2.1
  have n_3 := n_o.2.2
  refine x_iconst ho d_MO_isMirrored_0 ?_
  refine x_istore_n (L' := [(3, zV 1), (0, .ref m), (1, zV a), (2, zV n)]) ho d_MO_isMirrored_1 (by decide) rfl ?_
  refine x_iconst ho d_MO_isMirrored_2 ?_
  refine x_istore (L' := [(4, zV 0), (3, zV 1), (0, .ref m), (1, zV a), (2, zV n)]) ho d_MO_isMirrored_3 (by decide) rfl ?_
  have loop_5 : ∀ (kk : Nat) (k : Int) (s : Int) (k0 : 0 ≤ k ∧ k ≤ n / 2) (s1 : s = 0 ∨ s = 1) (hk : (s = 1 ∧ ∀ j : Int, 0 ≤ j → j < k → gA v.2.1 (a + j) = gA v.2.1 (a + n - 1 - j)) ∨ (s = 0 ∧ ¬ mir v.2.1 a n)), (n / 2 - k).toNat < kk → X M ({ frames := 1, cells := 0, slots := 0, locals := 21 } : Room) 5 nA 0 0 (Qof M nA (q_MO_isMirrored D m kp fl fo di ty az v a n) 0 0) 5 [(4, zV k), (3, zV s), (0, .ref m), (1, zV a), (2, zV n)] [] H := by
    intro kk
    induction kk with
    | zero => intro k s k0 s1 hk hk; exact absurd hk (Nat.not_lt_zero _)
    | succ kk ih_5 =>
      intro k s k0 s1 hk hk_5
      refine x_iload ho 0 d_MO_isMirrored_5 rfl ?_
      refine x_iload_n ho 4 d_MO_isMirrored_7 rfl ?_
      refine x_iconst ho d_MO_isMirrored_8 ?_
      refine x_idiv ho d_MO_isMirrored_9 (by omega) (by omega) ?_
      refine x_icmp_ge (tgt := 52) ho d_MO_isMirrored_10 (by decide) (by omega) (by omega) (fun c_10 => ?_) (fun c_10 => ?_)
      ·
        refine x_iload_n ho 1 d_MO_isMirrored_52 rfl ?_
        refine x_eqI (b := bI (mir v.2.1 a n)) (by rcases hk with h | h; rw [bI_t (P := mir v.2.1 a n) (fun j p q => h.2 j p (by omega))]; exact h.1; rw [bI_f h.2]; exact h.1) ?_
        refine x_zret ho hr (bI_01 _) d_MO_isMirrored_53 ?_
        exact rfl
      ·
        refine x_iload_n ho 1 d_MO_isMirrored_13 rfl ?_
        refine x_if_eq (tgt := 52) ho d_MO_isMirrored_14 (by decide) (by omega) (fun c_14 => ?_) (fun c_14 => ?_)
        ·
          refine x_iload_n ho 1 d_MO_isMirrored_52 rfl ?_
          refine x_eqI (b := bI (mir v.2.1 a n)) (by rcases hk with h | h; omega; rw [bI_f h.2]; exact h.1) ?_
          refine x_zret ho hr (bI_01 _) d_MO_isMirrored_53 ?_
          exact rfl
        ·
          have h_1 : s = 1 := by omega
          have h_2 : ∀ j : Int, 0 ≤ j → j < k → gA v.2.1 (a + j) = gA v.2.1 (a + n - 1 - j) := by rcases hk with h | h; exact h.2; omega
          refine x_aload_n ho 2 d_MO_isMirrored_17 rfl ?_
          refine x_iload_n ho 3 d_MO_isMirrored_18 rfl ?_
          refine x_iload ho 0 d_MO_isMirrored_19 rfl ?_
          refine x_iadd ho d_MO_isMirrored_21 ?_
          refine x_callV (rest := []) ho d_MO_isMirrored_22 yv_MO_word g_865 g_32 g_864 (c_MO_word M.2.1 D m kp fl fo di ty az v (a + k) (by omega)) rfl rfl ⟨Nat.le_of_ble_eq_true rfl, Nat.le_of_ble_eq_true rfl⟩ ⟨Nat.le_of_ble_eq_true rfl, Nat.le_of_ble_eq_true rfl⟩ rfl rfl (Nat.le_of_ble_eq_true rfl) t_o rfl rfl ⟨t_o, t_n⟩ fr_none' (x_rd (fun v_1 hv_1 => ?_))
          obtain ⟨rfl, gb_3⟩ := hv_1
          show X _ _ _ _ _ _ _ _ _ [zV (gA v.2.1 (a + k))] _
          refine x_aload_n ho 2 d_MO_isMirrored_25 rfl ?_
          refine x_iload_n ho 3 d_MO_isMirrored_26 rfl ?_
          refine x_iload_n ho 4 d_MO_isMirrored_27 rfl ?_
          refine x_iadd ho d_MO_isMirrored_28 ?_
          refine x_iconst ho d_MO_isMirrored_29 ?_
          refine x_isub ho d_MO_isMirrored_30 ?_
          refine x_iload ho 0 d_MO_isMirrored_31 rfl ?_
          refine x_isub ho d_MO_isMirrored_33 ?_
          refine x_callV (rest := [zV (gA v.2.1 (a + k))]) ho d_MO_isMirrored_34 yv_MO_word g_865 g_32 g_864 (c_MO_word M.2.1 D m kp fl fo di ty az v (((a + n) - 1) - k) (by omega)) rfl rfl ⟨Nat.le_of_ble_eq_true rfl, Nat.le_of_ble_eq_true rfl⟩ ⟨Nat.le_of_ble_eq_true rfl, Nat.le_of_ble_eq_true rfl⟩ rfl rfl (Nat.le_of_ble_eq_true rfl) t_o rfl rfl ⟨t_o, t_n⟩ fr_none' (x_rd (fun v_4 hv_4 => ?_))
          obtain ⟨rfl, gb_6⟩ := hv_4
          show X _ _ _ _ _ _ _ _ _ [zV (gA v.2.1 (((a + n) - 1) - k)), zV (gA v.2.1 (a + k))] _
          refine x_icmp_ne (tgt := 44) ho d_MO_isMirrored_37 (by decide) (by omega) (by omega) (fun c_37 => ?_) (fun c_37 => ?_)
          ·
            refine x_iconst ho d_MO_isMirrored_44 ?_
            refine x_istore_n (L' := [(3, zV 0), (4, zV k), (0, .ref m), (1, zV a), (2, zV n)]) ho d_MO_isMirrored_45 (by decide) rfl ?_
            refine x_iinc (L' := [(4, zV (k + 1)), (3, zV 0), (0, .ref m), (1, zV a), (2, zV n)]) ho 1 d_MO_isMirrored_46 rfl rfl (by decide) rfl ?_
            refine x_goto (tgt := 5) ho d_MO_isMirrored_49 (by decide) ?_
            exact ih_5 (k + 1) 0 (by omega) (by omega) (by exact Or.inr ⟨rfl, fun q => c_37 (q k (by omega) (by omega))⟩) (by omega)
          ·
            refine x_iconst ho d_MO_isMirrored_40 ?_
            refine x_goto (tgt := 45) ho d_MO_isMirrored_41 (by decide) ?_
            refine x_istore_n (L' := [(3, zV 1), (4, zV k), (0, .ref m), (1, zV a), (2, zV n)]) ho d_MO_isMirrored_45 (by decide) rfl ?_
            refine x_iinc (L' := [(4, zV (k + 1)), (3, zV 1), (0, .ref m), (1, zV a), (2, zV n)]) ho 1 d_MO_isMirrored_46 rfl rfl (by decide) rfl ?_
            refine x_goto (tgt := 5) ho d_MO_isMirrored_49 (by decide) ?_
            exact ih_5 (k + 1) 1 (by omega) (by omega) (by exact Or.inl ⟨rfl, fun j p q => by rcases (show j < k ∨ j = k by omega) with z | z; exact h_2 j p z; rw [z]; exact c_37⟩) (by omega)
  exact loop_5 _ 0 1 (by omega) (by omega) (by exact Or.inl ⟨rfl, fun j p q => by omega⟩) (Nat.lt_succ_self _)
def q_MO_isMany (D : GG) (e : Int) : Option Value → Heap → Prop := fun v0 H => v0 = some (zV (bI (2 ≤ pop e)))
theorem yv_MO_isMany : Yv y_MO_isMany b_MO_isMany 1 (Option.some FieldType.boolean) 1 := ⟨g_990, g_65, by decide, by decide +kernel⟩
set_option maxHeartbeats 4000000 in
set_option maxRecDepth 100000 in
theorem c_MO_isMany (l0 : Launch) (D : GG) (e : Int) (he : 0 ≤ e ∧ e < 16) : Ct l0 D y_MO_isMany b_MO_isMany 1 (Option.some FieldType.boolean) ({ frames := 0, cells := 0, slots := 0, locals := 0 } : Room) [zV e] (fun H => True) nA 0 0 (q_MO_isMany D e) := by
  refine Ct.of (L := [(0, zV e)]) (by decide) (Nat.le_of_ble_eq_true rfl) rfl (fun M H ho hr hnm hH hpre => ?_)
  have hm := andM_e he
  refine x_iload_n ho 0 d_MO_isMany_0 rfl ?_
  refine x_iload_n ho 0 d_MO_isMany_1 rfl ?_
  refine x_iconst ho d_MO_isMany_2 ?_
  refine x_isub ho d_MO_isMany_3 ?_
  refine x_andM ho d_MO_isMany_4 he ?_
  refine x_if_eq (tgt := 12) ho d_MO_isMany_5 (by decide) (by omega) (fun c_5 => ?_) (fun c_5 => ?_)
  ·
    refine x_iconst ho d_MO_isMany_12 ?_
    refine x_zret ho hr (Or.inl rfl) d_MO_isMany_13 ?_
    exact rF (by exact hm.2.2.mp c_5)
  ·
    refine x_iconst ho d_MO_isMany_8 ?_
    refine x_goto (tgt := 13) ho d_MO_isMany_9 (by decide) ?_
    refine x_zret ho hr (Or.inr rfl) d_MO_isMany_13 ?_
    exact rT (by exact Classical.not_not.mp fun w => c_5 (hm.2.2.mpr w))
def q_MO_around (D : GG) (m : Nat) (kp : Int) (fl : Int) (fo : Int) (di : Int) (ty : Int) (az : Int) (v : SV) (a : Int) (n : Int) (P : Prop) : Option Value → Heap → Prop := fun v0 H => v0 = some (zV (nbN v.2.1 (fun z => eqP v.2.1 z a n) (cif P (-1) n) (nP v.2.1 n).toNat)) ∧ (0 ≤ nbN v.2.1 (fun z => eqP v.2.1 z a n) (cif P (-1) n) (nP v.2.1 n).toNat ∧ nbN v.2.1 (fun z => eqP v.2.1 z a n) (cif P (-1) n) (nP v.2.1 n).toNat < 16)
theorem yv_MO_around : Yv y_MO_around b_MO_around 7 (Option.some FieldType.int) 3 := ⟨g_987, g_65, by decide, by decide +kernel⟩
set_option maxHeartbeats 4000000 in
set_option maxRecDepth 100000 in
theorem c_MO_around (l0 : Launch) (D : GG) (m : Nat) (kp : Int) (fl : Int) (fo : Int) (di : Int) (ty : Int) (az : Int) (v : SV) (a : Int) (n : Int) (P : Prop) (hn : 1 ≤ n) (ha : 0 ≤ a ∧ a + n ≤ (v.2.1.length : Int)) : Ct l0 D y_MO_around b_MO_around 7 (Option.some FieldType.int) ({ frames := 2, cells := 0, slots := 0, locals := 46 } : Room) [.ref m, zV a, zV n, zV (bI P)] (fun H => At D H m (oO 11 [.ref (m + 1), .ref (m + 2), zV kp, .ref (m + 3), zV fl, .ref (m + 4), .ref (m + 5), .ref (m + 6), zV fo, .ref (m + 7), zV di, zV ty, .ref (m + 8), zV az, .ref (m + 9), .ref (m + 10), .ref (m + 11)]) ∧ isN D H (m + 1) v) nA 0 0 (q_MO_around D m kp fl fo di ty az v a n P) := by
  refine Ct.of (L := [(0, .ref m), (1, zV a), (2, zV n), (3, zV (bI P))]) (by decide) (Nat.le_of_ble_eq_true rfl) rfl (fun M H ho hr hnm hH hpre => ?_)
  obtain ⟨t_o, t_n⟩ := hpre
  obtain ⟨n_f, n_a, n_r, n_o⟩ := id t_n
  have n_1 := n_o.1
  have n_2 := n_o.2.1
  have n_3 := n_o.2.2
  have hdd := cif_1n (P := P) hn
  have hp0 := nP_0 (L := v.2.1) (s := n)
  have hp3 : nP v.2.1 n ≤ 300 := by unfold nP; split <;> omega
  refine x_iconst ho d_MO_around_0 ?_
  refine x_istore (L' := [(4, zV 0), (0, .ref m), (1, zV a), (2, zV n), (3, zV (bI P))]) ho d_MO_around_1 (by decide) rfl ?_
  refine x_iconst ho d_MO_around_3 ?_
  refine x_istore (L' := [(5, zV 0), (4, zV 0), (0, .ref m), (1, zV a), (2, zV n), (3, zV (bI P))]) ho d_MO_around_4 (by decide) rfl ?_
  have loop_6 : ∀ (kk : Nat) (q : Int) (s : Int) (q0 : 0 ≤ q ∧ q ≤ nP v.2.1 n) (s0 : 0 ≤ s ∧ s < 16) (hs : s = nbN v.2.1 (fun z => eqP v.2.1 z a n) (cif P (-1) n) q.toNat), (nP v.2.1 n - q).toNat < kk → X M ({ frames := 2, cells := 0, slots := 0, locals := 46 } : Room) 7 nA 0 0 (Qof M nA (q_MO_around D m kp fl fo di ty az v a n P) 0 0) 6 [(5, zV q), (4, zV s), (0, .ref m), (1, zV a), (2, zV n), (3, zV (bI P))] [] H := by
    intro kk
    induction kk with
    | zero => intro q s q0 s0 hs hk; exact absurd hk (Nat.not_lt_zero _)
    | succ kk ih_6 =>
      intro q s q0 s0 hs hk_6
      refine x_iload ho 0 d_MO_around_6 rfl ?_
      refine x_iload_n ho 4 d_MO_around_8 rfl ?_
      refine x_iadd ho d_MO_around_9 ?_
      refine x_aload_n ho 2 d_MO_around_10 rfl ?_
      refine x_callV (rest := [zV (q + n)]) ho d_MO_around_11 yv_MO_length g_862 g_31 g_861 (c_MO_length M.2.1 D m kp fl fo di ty az v ) rfl rfl ⟨Nat.le_of_ble_eq_true rfl, Nat.le_of_ble_eq_true rfl⟩ ⟨Nat.le_of_ble_eq_true rfl, Nat.le_of_ble_eq_true rfl⟩ rfl rfl (Nat.le_of_ble_eq_true rfl) t_o rfl rfl ⟨t_o, t_n⟩ fr_none' (x_rd (fun v_1 hv_1 => ?_))
      obtain ⟨rfl, lb_3⟩ := hv_1
      show X _ _ _ _ _ _ _ _ _ [zV ((v.2.1.length : Int)), zV (q + n)] _
      refine x_icmp_gt (tgt := 79) ho d_MO_around_14 (by decide) (by omega) (by omega) (fun c_14 => ?_) (fun c_14 => ?_)
      ·
        have hqe := nP_e q0.1 q0.2 (by omega) hn
        refine x_iload ho 1 d_MO_around_79 rfl ?_
        refine x_iret ho hr d_MO_around_81 ?_
        exact ⟨rI (by rw [hs, hqe]), (by exact nbN_16 n_2.2.2 _ _ _)⟩
      ·
        have hpl := nP_lt (L := v.2.1) (s := n) (q := q) (by omega) (by omega)
        refine x_iload_n ho 5 d_MO_around_17 rfl ?_
        refine x_if_eqB (tgt := 28) ho d_MO_around_18 (by decide) (fun c_18 => ?_) (fun c_18 => ?_)
        ·
          refine x_iload ho 0 d_MO_around_28 rfl ?_
          refine x_iload_n ho 4 d_MO_around_30 rfl ?_
          refine x_iadd ho d_MO_around_31 ?_
          refine x_eqI (b := q + cif P (-1) n) (by rw [cif_f c_18]) ?_
          refine x_istore (L' := [(6, zV (q + cif P (-1) n)), (5, zV q), (4, zV s), (0, .ref m), (1, zV a), (2, zV n), (3, zV (bI P))]) ho d_MO_around_32 (by decide) rfl ?_
          refine x_iload ho 0 d_MO_around_34 rfl ?_
          refine x_iconst ho d_MO_around_36 ?_
          refine x_aload_n ho 3 d_MO_around_37 rfl ?_
          refine x_callV (rest := [zV 0, zV (q + cif P (-1) n)]) ho d_MO_around_38 yv_MO_length g_862 g_31 g_861 (c_MO_length M.2.1 D m kp fl fo di ty az v ) rfl rfl ⟨Nat.le_of_ble_eq_true rfl, Nat.le_of_ble_eq_true rfl⟩ ⟨Nat.le_of_ble_eq_true rfl, Nat.le_of_ble_eq_true rfl⟩ rfl rfl (Nat.le_of_ble_eq_true rfl) t_o rfl rfl ⟨t_o, t_n⟩ fr_none' (x_rd (fun v_4 hv_4 => ?_))
          obtain ⟨rfl, lb_6⟩ := hv_4
          show X _ _ _ _ _ _ _ _ _ [zV ((v.2.1.length : Int)), zV 0, zV (q + cif P (-1) n)] _
          refine x_iconst ho d_MO_around_41 ?_
          refine x_isub ho d_MO_around_42 ?_
          refine x_callS (rest := []) ho d_MO_around_43 yv_MO_in g_823 g_822 (c_MO_in M.2.1 D (q + cif P (-1) n) 0 (((v.2.1.length : Int)) - 1) (by omega) (by omega) (by omega)) rfl rfl ⟨Nat.le_of_ble_eq_true rfl, Nat.le_of_ble_eq_true rfl⟩ ⟨Nat.le_of_ble_eq_true rfl, Nat.le_of_ble_eq_true rfl⟩ rfl rfl (Nat.le_of_ble_eq_true rfl) trivial fr_none' (x_rd (fun v_7 hv_7 => ?_))
          obtain rfl := hv_7
          show X _ _ _ _ _ _ _ _ _ [zV (bI (0 ≤ (q + cif P (-1) n) ∧ (q + cif P (-1) n) ≤ (((v.2.1.length : Int)) - 1)))] _
          refine x_if_eqB (tgt := 73) ho d_MO_around_46 (by decide) (fun c_46 => ?_) (fun c_46 => ?_)
          ·
            refine x_iinc (L' := [(5, zV (q + 1)), (6, zV (q + cif P (-1) n)), (4, zV s), (0, .ref m), (1, zV a), (2, zV n), (3, zV (bI P))]) ho 1 d_MO_around_73 rfl rfl (by decide) rfl ?_
            refine x_goto (tgt := 6) ho d_MO_around_76 (by decide) ?_
            refine x_sub (L' := [(5, zV (q + 1)), (4, zV s), (0, .ref m), (1, zV a), (2, zV n), (3, zV (bI P))]) [0, 2, 3, 4, 5, 6] rfl ?_
            exact ih_6 (q + 1) s (by omega) (by omega) (by rw [nb_o (q := q) (by omega) c_46]; exact hs) (by omega)
          ·
            refine x_aload_n ho 3 d_MO_around_49 rfl ?_
            refine x_iload_n ho 4 d_MO_around_50 rfl ?_
            refine x_iload ho 1 d_MO_around_51 rfl ?_
            refine x_iload_n ho 5 d_MO_around_53 rfl ?_
            refine x_callV (rest := []) ho d_MO_around_54 yv_MO_isSamePiece g_980 g_47 g_979 (c_MO_isSamePiece M.2.1 D m kp fl fo di ty az v a q n (by omega) (by omega) (by omega)) rfl rfl ⟨Nat.le_of_ble_eq_true rfl, Nat.le_of_ble_eq_true rfl⟩ ⟨Nat.le_of_ble_eq_true rfl, Nat.le_of_ble_eq_true rfl⟩ rfl rfl (Nat.le_of_ble_eq_true rfl) t_o rfl rfl ⟨t_o, t_n⟩ fr_none' (x_rd (fun v_9 hv_9 => ?_))
            obtain rfl := hv_9
            show X _ _ _ _ _ _ _ _ _ [zV (bI (eqP v.2.1 a q n))] _
            refine x_if_eqB (tgt := 73) ho d_MO_around_57 (by decide) (fun c_57 => ?_) (fun c_57 => ?_)
            ·
              refine x_iinc (L' := [(5, zV (q + 1)), (6, zV (q + cif P (-1) n)), (4, zV s), (0, .ref m), (1, zV a), (2, zV n), (3, zV (bI P))]) ho 1 d_MO_around_73 rfl rfl (by decide) rfl ?_
              refine x_goto (tgt := 6) ho d_MO_around_76 (by decide) ?_
              refine x_sub (L' := [(5, zV (q + 1)), (4, zV s), (0, .ref m), (1, zV a), (2, zV n), (3, zV (bI P))]) [0, 2, 3, 4, 5, 6] rfl ?_
              exact ih_6 (q + 1) s (by omega) (by omega) (by rw [nb_f (E := (fun z => eqP v.2.1 z a n)) (q := q) (by omega) (fun w => c_57 (eqP_s w))]; exact hs) (by omega)
            ·
              refine x_iload ho 2 d_MO_around_60 rfl ?_
              refine x_iconst ho d_MO_around_62 ?_
              refine x_aload_n ho 3 d_MO_around_63 rfl ?_
              refine x_iload ho 0 d_MO_around_64 rfl ?_
              refine x_callV (rest := [zV 1, zV s]) ho d_MO_around_66 yv_MO_word g_865 g_32 g_864 (c_MO_word M.2.1 D m kp fl fo di ty az v (q + cif P (-1) n) (by omega)) rfl rfl ⟨Nat.le_of_ble_eq_true rfl, Nat.le_of_ble_eq_true rfl⟩ ⟨Nat.le_of_ble_eq_true rfl, Nat.le_of_ble_eq_true rfl⟩ rfl rfl (Nat.le_of_ble_eq_true rfl) t_o rfl rfl ⟨t_o, t_n⟩ fr_none' (x_rd (fun v_11 hv_11 => ?_))
              obtain ⟨rfl, gb_13⟩ := hv_11
              show X _ _ _ _ _ _ _ _ _ [zV (gA v.2.1 (q + cif P (-1) n)), zV 1, zV s] _
              refine x_shl1 ho d_MO_around_69 (by omega) ?_
              have hgr := gA_r n_2.2.2 (q + cif P (-1) n)
              have hsr := sh_16 hgr.1 hgr.2
              have hor := orI_16 s0 hsr
              refine x_or16 ho d_MO_around_70 (by omega) (by omega) ?_
              refine x_istore (L' := [(4, zV (orI s (sh (gA v.2.1 (q + cif P (-1) n))))), (6, zV (q + cif P (-1) n)), (5, zV q), (0, .ref m), (1, zV a), (2, zV n), (3, zV (bI P))]) ho d_MO_around_71 (by decide) rfl ?_
              refine x_iinc (L' := [(5, zV (q + 1)), (4, zV (orI s (sh (gA v.2.1 (q + cif P (-1) n))))), (6, zV (q + cif P (-1) n)), (0, .ref m), (1, zV a), (2, zV n), (3, zV (bI P))]) ho 2 d_MO_around_73 rfl rfl (by decide) rfl ?_
              refine x_goto (tgt := 6) ho d_MO_around_76 (by decide) ?_
              refine x_sub (L' := [(5, zV (q + 1)), (4, zV (orI s (sh (gA v.2.1 (q + cif P (-1) n))))), (0, .ref m), (1, zV a), (2, zV n), (3, zV (bI P))]) [0, 1, 3, 4, 5, 6] rfl ?_
              exact ih_6 (q + 1) (orI s (sh (gA v.2.1 (q + cif P (-1) n)))) (by omega) (by omega) (by rw [nb_t (E := (fun z => eqP v.2.1 z a n)) (q := q) n_2.2.2 (by omega) (by omega) (by omega) (eqP_s c_57), hs]) (by omega)
        ·
          refine x_iload ho 0 d_MO_around_21 rfl ?_
          refine x_iconst ho d_MO_around_23 ?_
          refine x_isub ho d_MO_around_24 ?_
          refine x_eqI (b := q + cif P (-1) n) (by rw [cif_t c_18]; omega) ?_
          refine x_goto (tgt := 32) ho d_MO_around_25 (by decide) ?_
          refine x_istore (L' := [(6, zV (q + cif P (-1) n)), (5, zV q), (4, zV s), (0, .ref m), (1, zV a), (2, zV n), (3, zV (bI P))]) ho d_MO_around_32 (by decide) rfl ?_
          refine x_iload ho 0 d_MO_around_34 rfl ?_
          refine x_iconst ho d_MO_around_36 ?_
          refine x_aload_n ho 3 d_MO_around_37 rfl ?_
          refine x_callV (rest := [zV 0, zV (q + cif P (-1) n)]) ho d_MO_around_38 yv_MO_length g_862 g_31 g_861 (c_MO_length M.2.1 D m kp fl fo di ty az v ) rfl rfl ⟨Nat.le_of_ble_eq_true rfl, Nat.le_of_ble_eq_true rfl⟩ ⟨Nat.le_of_ble_eq_true rfl, Nat.le_of_ble_eq_true rfl⟩ rfl rfl (Nat.le_of_ble_eq_true rfl) t_o rfl rfl ⟨t_o, t_n⟩ fr_none' (x_rd (fun v_14 hv_14 => ?_))
          obtain ⟨rfl, lb_16⟩ := hv_14
          show X _ _ _ _ _ _ _ _ _ [zV ((v.2.1.length : Int)), zV 0, zV (q + cif P (-1) n)] _
          refine x_iconst ho d_MO_around_41 ?_
          refine x_isub ho d_MO_around_42 ?_
          refine x_callS (rest := []) ho d_MO_around_43 yv_MO_in g_823 g_822 (c_MO_in M.2.1 D (q + cif P (-1) n) 0 (((v.2.1.length : Int)) - 1) (by omega) (by omega) (by omega)) rfl rfl ⟨Nat.le_of_ble_eq_true rfl, Nat.le_of_ble_eq_true rfl⟩ ⟨Nat.le_of_ble_eq_true rfl, Nat.le_of_ble_eq_true rfl⟩ rfl rfl (Nat.le_of_ble_eq_true rfl) trivial fr_none' (x_rd (fun v_17 hv_17 => ?_))
          obtain rfl := hv_17
          show X _ _ _ _ _ _ _ _ _ [zV (bI (0 ≤ (q + cif P (-1) n) ∧ (q + cif P (-1) n) ≤ (((v.2.1.length : Int)) - 1)))] _
          refine x_if_eqB (tgt := 73) ho d_MO_around_46 (by decide) (fun c_46 => ?_) (fun c_46 => ?_)
          ·
            refine x_iinc (L' := [(5, zV (q + 1)), (6, zV (q + cif P (-1) n)), (4, zV s), (0, .ref m), (1, zV a), (2, zV n), (3, zV (bI P))]) ho 1 d_MO_around_73 rfl rfl (by decide) rfl ?_
            refine x_goto (tgt := 6) ho d_MO_around_76 (by decide) ?_
            refine x_sub (L' := [(5, zV (q + 1)), (4, zV s), (0, .ref m), (1, zV a), (2, zV n), (3, zV (bI P))]) [0, 2, 3, 4, 5, 6] rfl ?_
            exact ih_6 (q + 1) s (by omega) (by omega) (by rw [nb_o (q := q) (by omega) c_46]; exact hs) (by omega)
          ·
            refine x_aload_n ho 3 d_MO_around_49 rfl ?_
            refine x_iload_n ho 4 d_MO_around_50 rfl ?_
            refine x_iload ho 1 d_MO_around_51 rfl ?_
            refine x_iload_n ho 5 d_MO_around_53 rfl ?_
            refine x_callV (rest := []) ho d_MO_around_54 yv_MO_isSamePiece g_980 g_47 g_979 (c_MO_isSamePiece M.2.1 D m kp fl fo di ty az v a q n (by omega) (by omega) (by omega)) rfl rfl ⟨Nat.le_of_ble_eq_true rfl, Nat.le_of_ble_eq_true rfl⟩ ⟨Nat.le_of_ble_eq_true rfl, Nat.le_of_ble_eq_true rfl⟩ rfl rfl (Nat.le_of_ble_eq_true rfl) t_o rfl rfl ⟨t_o, t_n⟩ fr_none' (x_rd (fun v_19 hv_19 => ?_))
            obtain rfl := hv_19
            show X _ _ _ _ _ _ _ _ _ [zV (bI (eqP v.2.1 a q n))] _
            refine x_if_eqB (tgt := 73) ho d_MO_around_57 (by decide) (fun c_57 => ?_) (fun c_57 => ?_)
            ·
              refine x_iinc (L' := [(5, zV (q + 1)), (6, zV (q + cif P (-1) n)), (4, zV s), (0, .ref m), (1, zV a), (2, zV n), (3, zV (bI P))]) ho 1 d_MO_around_73 rfl rfl (by decide) rfl ?_
              refine x_goto (tgt := 6) ho d_MO_around_76 (by decide) ?_
              refine x_sub (L' := [(5, zV (q + 1)), (4, zV s), (0, .ref m), (1, zV a), (2, zV n), (3, zV (bI P))]) [0, 2, 3, 4, 5, 6] rfl ?_
              exact ih_6 (q + 1) s (by omega) (by omega) (by rw [nb_f (E := (fun z => eqP v.2.1 z a n)) (q := q) (by omega) (fun w => c_57 (eqP_s w))]; exact hs) (by omega)
            ·
              refine x_iload ho 2 d_MO_around_60 rfl ?_
              refine x_iconst ho d_MO_around_62 ?_
              refine x_aload_n ho 3 d_MO_around_63 rfl ?_
              refine x_iload ho 0 d_MO_around_64 rfl ?_
              refine x_callV (rest := [zV 1, zV s]) ho d_MO_around_66 yv_MO_word g_865 g_32 g_864 (c_MO_word M.2.1 D m kp fl fo di ty az v (q + cif P (-1) n) (by omega)) rfl rfl ⟨Nat.le_of_ble_eq_true rfl, Nat.le_of_ble_eq_true rfl⟩ ⟨Nat.le_of_ble_eq_true rfl, Nat.le_of_ble_eq_true rfl⟩ rfl rfl (Nat.le_of_ble_eq_true rfl) t_o rfl rfl ⟨t_o, t_n⟩ fr_none' (x_rd (fun v_21 hv_21 => ?_))
              obtain ⟨rfl, gb_23⟩ := hv_21
              show X _ _ _ _ _ _ _ _ _ [zV (gA v.2.1 (q + cif P (-1) n)), zV 1, zV s] _
              refine x_shl1 ho d_MO_around_69 (by omega) ?_
              have hgr := gA_r n_2.2.2 (q + cif P (-1) n)
              have hsr := sh_16 hgr.1 hgr.2
              have hor := orI_16 s0 hsr
              refine x_or16 ho d_MO_around_70 (by omega) (by omega) ?_
              refine x_istore (L' := [(4, zV (orI s (sh (gA v.2.1 (q + cif P (-1) n))))), (6, zV (q + cif P (-1) n)), (5, zV q), (0, .ref m), (1, zV a), (2, zV n), (3, zV (bI P))]) ho d_MO_around_71 (by decide) rfl ?_
              refine x_iinc (L' := [(5, zV (q + 1)), (4, zV (orI s (sh (gA v.2.1 (q + cif P (-1) n))))), (6, zV (q + cif P (-1) n)), (0, .ref m), (1, zV a), (2, zV n), (3, zV (bI P))]) ho 2 d_MO_around_73 rfl rfl (by decide) rfl ?_
              refine x_goto (tgt := 6) ho d_MO_around_76 (by decide) ?_
              refine x_sub (L' := [(5, zV (q + 1)), (4, zV (orI s (sh (gA v.2.1 (q + cif P (-1) n))))), (0, .ref m), (1, zV a), (2, zV n), (3, zV (bI P))]) [0, 1, 3, 4, 5, 6] rfl ?_
              exact ih_6 (q + 1) (orI s (sh (gA v.2.1 (q + cif P (-1) n)))) (by omega) (by omega) (by rw [nb_t (E := (fun z => eqP v.2.1 z a n)) (q := q) n_2.2.2 (by omega) (by omega) (by omega) (eqP_s c_57), hs]) (by omega)
  exact loop_6 _ 0 0 (by omega) (by omega) (by rfl) (Nat.lt_succ_self _)
def q_MO_times (D : GG) (m : Nat) (kp : Int) (fl : Int) (fo : Int) (di : Int) (ty : Int) (az : Int) (v : SV) (a : Int) (p : Int) (n : Int) : Option Value → Heap → Prop := fun v0 H => v0 = some (zV (cw v.2.1 a n p)) ∧ (0 ≤ cw v.2.1 a n p ∧ cw v.2.1 a n p ≤ n)
theorem yv_MO_times : Yv y_MO_times b_MO_times 6 (Option.some FieldType.int) 3 := ⟨g_997, g_65, by decide, by decide +kernel⟩
set_option maxHeartbeats 4000000 in
set_option maxRecDepth 100000 in
theorem c_MO_times (l0 : Launch) (D : GG) (m : Nat) (kp : Int) (fl : Int) (fo : Int) (di : Int) (ty : Int) (az : Int) (v : SV) (a : Int) (p : Int) (n : Int) (haa : -2147483648 ≤ a ∧ a ≤ 2147483647) (hn : 0 ≤ n) (hp : 0 ≤ p ∧ p + n ≤ (v.2.1.length : Int)) : Ct l0 D y_MO_times b_MO_times 6 (Option.some FieldType.int) ({ frames := 1, cells := 0, slots := 0, locals := 21 } : Room) [.ref m, zV a, zV p, zV n] (fun H => At D H m (oO 11 [.ref (m + 1), .ref (m + 2), zV kp, .ref (m + 3), zV fl, .ref (m + 4), .ref (m + 5), .ref (m + 6), zV fo, .ref (m + 7), zV di, zV ty, .ref (m + 8), zV az, .ref (m + 9), .ref (m + 10), .ref (m + 11)]) ∧ isN D H (m + 1) v) nA 0 0 (q_MO_times D m kp fl fo di ty az v a p n) := by
  refine Ct.of (L := [(0, .ref m), (1, zV a), (2, zV p), (3, zV n)]) (by decide) (Nat.le_of_ble_eq_true rfl) rfl (fun M H ho hr hnm hH hpre => ?_)
  obtain ⟨t_o, t_n⟩ := hpre
  obtain ⟨n_f, n_a, n_r, n_o⟩ := id t_n
  have n_1 := n_o.1
  have n_2 := n_o.2.1
  have n_3 := n_o.2.2
  refine x_iconst ho d_MO_times_0 ?_
  refine x_istore (L' := [(4, zV 0), (0, .ref m), (1, zV a), (2, zV p), (3, zV n)]) ho d_MO_times_1 (by decide) rfl ?_
  refine x_iconst ho d_MO_times_3 ?_
  refine x_istore (L' := [(5, zV 0), (4, zV 0), (0, .ref m), (1, zV a), (2, zV p), (3, zV n)]) ho d_MO_times_4 (by decide) rfl ?_
  have loop_6 : ∀ (kk : Nat) (k : Int) (c : Int) (k0 : 0 ≤ k ∧ k ≤ n) (c0 : 0 ≤ c ∧ c ≤ k) (hc : c = cw v.2.1 a k p), (n - k).toNat < kk → X M ({ frames := 1, cells := 0, slots := 0, locals := 21 } : Room) 6 nA 0 0 (Qof M nA (q_MO_times D m kp fl fo di ty az v a p n) 0 0) 6 [(5, zV k), (4, zV c), (0, .ref m), (1, zV a), (2, zV p), (3, zV n)] [] H := by
    intro kk
    induction kk with
    | zero => intro k c k0 c0 hc hk; exact absurd hk (Nat.not_lt_zero _)
    | succ kk ih_6 =>
      intro k c k0 c0 hc hk_6
      refine x_iload ho 0 d_MO_times_6 rfl ?_
      refine x_iload_n ho 5 d_MO_times_8 rfl ?_
      refine x_icmp_ge (tgt := 40) ho d_MO_times_9 (by decide) (by omega) (by omega) (fun c_9 => ?_) (fun c_9 => ?_)
      ·
        have hkn : k = n := by omega
        rw [hkn] at hc c0
        refine x_iload ho 1 d_MO_times_40 rfl ?_
        refine x_iret ho hr d_MO_times_42 ?_
        exact ⟨rI (by exact hc), (by rw [← hc]; exact c0)⟩
      ·
        refine x_iload ho 1 d_MO_times_12 rfl ?_
        refine x_aload_n ho 2 d_MO_times_14 rfl ?_
        refine x_iload_n ho 4 d_MO_times_15 rfl ?_
        refine x_iload ho 0 d_MO_times_16 rfl ?_
        refine x_iadd ho d_MO_times_18 ?_
        refine x_callV (rest := [zV c]) ho d_MO_times_19 yv_MO_word g_865 g_32 g_864 (c_MO_word M.2.1 D m kp fl fo di ty az v (p + k) (by omega)) rfl rfl ⟨Nat.le_of_ble_eq_true rfl, Nat.le_of_ble_eq_true rfl⟩ ⟨Nat.le_of_ble_eq_true rfl, Nat.le_of_ble_eq_true rfl⟩ rfl rfl (Nat.le_of_ble_eq_true rfl) t_o rfl rfl ⟨t_o, t_n⟩ fr_none' (x_rd (fun v_1 hv_1 => ?_))
        obtain ⟨rfl, gb_3⟩ := hv_1
        show X _ _ _ _ _ _ _ _ _ [zV (gA v.2.1 (p + k)), zV c] _
        refine x_iload_n ho 3 d_MO_times_22 rfl ?_
        refine x_icmp_ne (tgt := 30) ho d_MO_times_23 (by decide) (by omega) (by omega) (fun c_23 => ?_) (fun c_23 => ?_)
        ·
          refine x_iconst ho d_MO_times_30 ?_
          refine x_iadd ho d_MO_times_31 ?_
          refine x_istore (L' := [(4, zV (c + 0)), (5, zV k), (0, .ref m), (1, zV a), (2, zV p), (3, zV n)]) ho d_MO_times_32 (by decide) rfl ?_
          refine x_iinc (L' := [(5, zV (k + 1)), (4, zV (c + 0)), (0, .ref m), (1, zV a), (2, zV p), (3, zV n)]) ho 1 d_MO_times_34 rfl rfl (by decide) rfl ?_
          refine x_goto (tgt := 6) ho d_MO_times_37 (by decide) ?_
          exact ih_6 (k + 1) (c + 0) (by omega) (by omega) (by unfold cw at hc ⊢; rw [show p + (k + 1) = p + k + 1 by omega, cn_tk (by omega) (by omega), if_neg c_23]; omega) (by omega)
        ·
          refine x_iconst ho d_MO_times_26 ?_
          refine x_goto (tgt := 31) ho d_MO_times_27 (by decide) ?_
          refine x_iadd ho d_MO_times_31 ?_
          refine x_istore (L' := [(4, zV (c + 1)), (5, zV k), (0, .ref m), (1, zV a), (2, zV p), (3, zV n)]) ho d_MO_times_32 (by decide) rfl ?_
          refine x_iinc (L' := [(5, zV (k + 1)), (4, zV (c + 1)), (0, .ref m), (1, zV a), (2, zV p), (3, zV n)]) ho 1 d_MO_times_34 rfl rfl (by decide) rfl ?_
          refine x_goto (tgt := 6) ho d_MO_times_37 (by decide) ?_
          exact ih_6 (k + 1) (c + 1) (by omega) (by omega) (by unfold cw at hc ⊢; rw [show p + (k + 1) = p + k + 1 by omega, cn_tk (by omega) (by omega), if_pos c_23]; omega) (by omega)
  exact loop_6 _ 0 0 (by omega) (by omega) (by unfold cw; rw [Int.add_zero]; omega) (Nat.lt_succ_self _)
def q_MO_pieces (D : GG) (m : Nat) (V : WV) (z1 : Int) (z2 : Int) : Option Value → Heap → Prop := fun v0 H => v0 = some (zV (r_pieces z1 z2 V)) ∧ isO D H m V
theorem yv_MO_pieces : Yv y_MO_pieces b_MO_pieces 7 (Option.some FieldType.int) 2 := ⟨g_978, g_65, by decide, by decide +kernel⟩
set_option maxHeartbeats 4000000 in
set_option maxRecDepth 100000 in
theorem c_MO_pieces (l0 : Launch) (D : GG) (m : Nat) (V : WV) (z1 : Int) (z2 : Int) (hz1 : -2147483648 ≤ z1 ∧ z1 ≤ 2147483647) (hz2 : -2147483648 ≤ z2 ∧ z2 ≤ 2147483647) : Ct l0 D y_MO_pieces b_MO_pieces 7 (Option.some FieldType.int) ({ frames := 3, cells := 0, slots := 0, locals := 72 } : Room) [.ref m, zV z1, zV z2] (fun H => isO D H m V) (rA m (m + 12)) 0 0 (q_MO_pieces D m V z1 z2) := by
  refine Ct.of (L := [(0, .ref m), (1, zV z1), (2, zV z2)]) (by decide) (Nat.le_of_ble_eq_true rfl) rfl (fun M H ho hr hnm hH hpre => ?_)
  have hW := hpre
  obtain ⟨o_fo, o_di, o_az, o_t, o_b, o_p, o_u, o_c, o_e, o_y, a_o, a_n, a_h, a_s, a_t, a_b, a_p, a_u, a_x, a_c, a_e, a_y, a_k⟩ := id hW
  have n_o := a_n.ok
  have n_1 := n_o.1
  have n_2 := n_o.2.1
  have n_3 := n_o.2.2
  have h_b := a_h.b
  have hp0 := nP_0 (L := V.1.2.1) (s := z1)
  refine x_iload_n ho 1 d_MO_pieces_0 rfl ?_
  refine x_iconst ho d_MO_pieces_1 ?_
  refine x_bipush (z := 20) ho d_MO_pieces_2 (by decide) ?_
  refine x_callS (rest := []) ho d_MO_pieces_4 yv_MO_in g_823 g_822 (c_MO_in M.2.1 D z1 1 20 (by omega) (by omega) (by omega)) rfl rfl ⟨Nat.le_of_ble_eq_true rfl, Nat.le_of_ble_eq_true rfl⟩ ⟨Nat.le_of_ble_eq_true rfl, Nat.le_of_ble_eq_true rfl⟩ rfl rfl (Nat.le_of_ble_eq_true rfl) trivial fr_none' (x_rd (fun v_1 hv_1 => ?_))
  obtain rfl := hv_1
  show X _ _ _ _ _ _ _ _ _ [zV (bI (1 ≤ z1 ∧ z1 ≤ 20))] _
  refine x_if_eqB (tgt := 19) ho d_MO_pieces_7 (by decide) (fun c_7 => ?_) (fun c_7 => ?_)
  ·
    have z_5 : ¬ ((1 ≤ z1 ∧ z1 ≤ 20) ∧ 0 ≤ z2 ∧ z2 ≤ 3) := fun q => c_7 q.1
    refine x_bipush (z := (-2)) ho d_MO_pieces_19 (by decide) ?_
    refine x_iret ho hr d_MO_pieces_21 ?_
    exact ⟨rI (by unfold r_pieces; rw [cif_f (z_5)]), isO_mk a_o a_n a_h a_s a_t a_b a_p a_u a_x a_c a_e a_y a_k⟩
  ·
    refine x_iload_n ho 2 d_MO_pieces_10 rfl ?_
    refine x_iconst ho d_MO_pieces_11 ?_
    refine x_iconst ho d_MO_pieces_12 ?_
    refine x_callS (rest := []) ho d_MO_pieces_13 yv_MO_in g_823 g_822 (c_MO_in M.2.1 D z2 0 3 (by omega) (by omega) (by omega)) rfl rfl ⟨Nat.le_of_ble_eq_true rfl, Nat.le_of_ble_eq_true rfl⟩ ⟨Nat.le_of_ble_eq_true rfl, Nat.le_of_ble_eq_true rfl⟩ rfl rfl (Nat.le_of_ble_eq_true rfl) trivial fr_none' (x_rd (fun v_3 hv_3 => ?_))
    obtain rfl := hv_3
    show X _ _ _ _ _ _ _ _ _ [zV (bI (0 ≤ z2 ∧ z2 ≤ 3))] _
    refine x_if_neB (tgt := 22) ho d_MO_pieces_16 (by decide) (fun c_16 => ?_) (fun c_16 => ?_)
    ·
      have z_5 : (1 ≤ z1 ∧ z1 ≤ 20) ∧ 0 ≤ z2 ∧ z2 ≤ 3 := ⟨c_7, c_16⟩
      have hp3 : nP V.1.2.1 z1 ≤ 300 := by unfold nP; split <;> omega
      refine x_iconst ho d_MO_pieces_22 ?_
      refine x_istore_n (L' := [(3, zV 0), (0, .ref m), (1, zV z1), (2, zV z2)]) ho d_MO_pieces_23 (by decide) rfl ?_
      refine x_iconst ho d_MO_pieces_24 ?_
      refine x_istore (L' := [(4, zV 0), (3, zV 0), (0, .ref m), (1, zV z1), (2, zV z2)]) ho d_MO_pieces_25 (by decide) rfl ?_
      have loop_27 : ∀ (kk : Nat) (p : Int) (n : Int) (p0 : 0 ≤ p ∧ p ≤ nP V.1.2.1 z1) (n0 : 0 ≤ n ∧ n ≤ p) (hN : n = pcN (fun p => fstP V.1.2.1 p z1 ∧ ctP V.1.2.1 (fun q => eqP V.1.2.1 q p z1) p z1 z2 (nP V.1.2.1 z1).toNat) p.toNat), (nP V.1.2.1 z1 - p).toNat < kk → X M ({ frames := 3, cells := 0, slots := 0, locals := 72 } : Room) 7 (rA m (m + 12)) 0 0 (Qof M (rA m (m + 12)) (q_MO_pieces D m V z1 z2) 0 0) 27 [(4, zV p), (3, zV n), (0, .ref m), (1, zV z1), (2, zV z2)] [] H := by
        intro kk
        induction kk with
        | zero => intro p n p0 n0 hN hk; exact absurd hk (Nat.not_lt_zero _)
        | succ kk ih_27 =>
          intro p n p0 n0 hN hk_27
          refine x_iload ho 0 d_MO_pieces_27 rfl ?_
          refine x_iload_n ho 3 d_MO_pieces_29 rfl ?_
          refine x_iadd ho d_MO_pieces_30 ?_
          refine x_aload_n ho 2 d_MO_pieces_31 rfl ?_
          refine x_callV (rest := [zV (p + z1)]) ho d_MO_pieces_32 yv_MO_length g_862 g_31 g_861 (c_MO_length M.2.1 D m ((V.2.2.2.1.length : Int)) V.2.2.1 o_fo o_di ((V.2.2.2.2.length : Int)) o_az V.1 ) rfl rfl ⟨Nat.le_of_ble_eq_true rfl, Nat.le_of_ble_eq_true rfl⟩ ⟨Nat.le_of_ble_eq_true rfl, Nat.le_of_ble_eq_true rfl⟩ rfl rfl (Nat.le_of_ble_eq_true rfl) a_o rfl rfl ⟨a_o, a_n⟩ fr_none' (x_rd (fun v_5 hv_5 => ?_))
          obtain ⟨rfl, lb_7⟩ := hv_5
          show X _ _ _ _ _ _ _ _ _ [zV ((V.1.2.1.length : Int)), zV (p + z1)] _
          refine x_icmp_gt (tgt := 153) ho d_MO_pieces_35 (by decide) (by omega) (by omega) (fun c_35 => ?_) (fun c_35 => ?_)
          ·
            have hqe := nP_e p0.1 p0.2 (by omega) (by omega)
            rw [hqe] at hN
            refine x_iload_n ho 1 d_MO_pieces_153 rfl ?_
            refine x_iret ho hr d_MO_pieces_154 ?_
            exact ⟨rI (by unfold r_pieces; rw [cif_t z_5]; exact hN), isO_mk a_o a_n a_h a_s a_t a_b a_p a_u a_x a_c a_e a_y a_k⟩
          ·
            have hpl := nP_lt (L := V.1.2.1) (s := z1) (q := p) (by omega) (by omega)
            refine x_iconst ho d_MO_pieces_38 ?_
            refine x_istore (L' := [(5, zV 1), (4, zV p), (3, zV n), (0, .ref m), (1, zV z1), (2, zV z2)]) ho d_MO_pieces_39 (by decide) rfl ?_
            refine x_iconst ho d_MO_pieces_41 ?_
            refine x_istore (L' := [(6, zV 0), (5, zV 1), (4, zV p), (3, zV n), (0, .ref m), (1, zV z1), (2, zV z2)]) ho d_MO_pieces_42 (by decide) rfl ?_
            have loop_44 : ∀ (kk : Nat) (i : Int) (s : Int) (i0 : 0 ≤ i ∧ i ≤ p) (s0 : s = 0 ∨ s = 1) (hs : (s = 1 ∧ ∀ e : Int, 0 ≤ e → e < i → ¬ eqP V.1.2.1 e p z1) ∨ (s = 0 ∧ ¬ fstP V.1.2.1 p z1)), (p - i).toNat < kk → X M ({ frames := 3, cells := 0, slots := 0, locals := 72 } : Room) 7 (rA m (m + 12)) 0 0 (Qof M (rA m (m + 12)) (q_MO_pieces D m V z1 z2) 0 0) 44 [(6, zV i), (5, zV s), (4, zV p), (3, zV n), (0, .ref m), (1, zV z1), (2, zV z2)] [] H := by
              intro kk
              induction kk with
              | zero => intro i s i0 s0 hs hk; exact absurd hk (Nat.not_lt_zero _)
              | succ kk ih_44 =>
                intro i s i0 s0 hs hk_44
                refine x_iload ho 0 d_MO_pieces_44 rfl ?_
                refine x_iload ho 2 d_MO_pieces_46 rfl ?_
                refine x_icmp_ge (tgt := 81) ho d_MO_pieces_48 (by decide) (by omega) (by omega) (fun c_48 => ?_) (fun c_48 => ?_)
                ·
                  have hfst : (s = 1 ∧ fstP V.1.2.1 p z1) ∨ (s = 0 ∧ ¬ fstP V.1.2.1 p z1) := by rcases hs with h | h; exact Or.inl ⟨h.1, fun e a b => h.2 e a (by omega)⟩; exact Or.inr h
                  refine x_iload ho 1 d_MO_pieces_81 rfl ?_
                  refine x_if_eq (tgt := 103) ho d_MO_pieces_83 (by decide) (by omega) (fun c_83 => ?_) (fun c_83 => ?_)
                  ·
                    refine x_iload ho 1 d_MO_pieces_103 rfl ?_
                    refine x_if_eq (tgt := 134) ho d_MO_pieces_105 (by decide) (by omega) (fun c_105 => ?_) (fun c_105 => ?_)
                    ·
                      refine x_iload_n ho 3 d_MO_pieces_134 rfl ?_
                      refine x_iload ho 1 d_MO_pieces_135 rfl ?_
                      refine x_if_eq (tgt := 144) ho d_MO_pieces_137 (by decide) (by omega) (fun c_137 => ?_) (fun c_137 => ?_)
                      ·
                        refine x_iconst ho d_MO_pieces_144 ?_
                        refine x_iadd ho d_MO_pieces_145 ?_
                        refine x_istore_n (L' := [(3, zV (n + 0)), (6, zV i), (5, zV s), (4, zV p), (0, .ref m), (1, zV z1), (2, zV z2)]) ho d_MO_pieces_146 (by decide) rfl ?_
                        refine x_iinc (L' := [(4, zV (p + 1)), (3, zV (n + 0)), (6, zV i), (5, zV s), (0, .ref m), (1, zV z1), (2, zV z2)]) ho 3 d_MO_pieces_147 rfl rfl (by decide) rfl ?_
                        refine x_goto (tgt := 27) ho d_MO_pieces_150 (by decide) ?_
                        refine x_sub (L' := [(4, zV (p + 1)), (3, zV (n + 0)), (0, .ref m), (1, zV z1), (2, zV z2)]) [0, 1, 4, 5, 6] rfl ?_
                        exact ih_27 (p + 1) (n + 0) (by omega) (by omega) (by rcases hfst with h | h; omega; rw [pc_f (P := fun p => fstP V.1.2.1 p z1 ∧ ctP V.1.2.1 (fun q => eqP V.1.2.1 q p z1) p z1 z2 (nP V.1.2.1 z1).toNat) (by omega) (fun w => h.2 w.1), hN]) (by omega)
                      ·
                        omega
                    ·
                      omega
                  ·
                    refine x_iload_n ho 6 d_MO_pieces_86 rfl ?_
                    refine x_iconst ho d_MO_pieces_87 ?_
                    refine x_icmp_ne (tgt := 103) ho d_MO_pieces_88 (by decide) (by omega) (by omega) (fun c_88 => ?_) (fun c_88 => ?_)
                    ·
                      refine x_iload ho 1 d_MO_pieces_103 rfl ?_
                      refine x_if_eq (tgt := 134) ho d_MO_pieces_105 (by decide) (by omega) (fun c_105 => ?_) (fun c_105 => ?_)
                      ·
                        omega
                      ·
                        refine x_iload_n ho 6 d_MO_pieces_108 rfl ?_
                        refine x_if_le (tgt := 134) ho d_MO_pieces_109 (by decide) (by omega) (fun c_109 => ?_) (fun c_109 => ?_)
                        ·
                          refine x_iload_n ho 3 d_MO_pieces_134 rfl ?_
                          refine x_iload ho 1 d_MO_pieces_135 rfl ?_
                          refine x_if_eq (tgt := 144) ho d_MO_pieces_137 (by decide) (by omega) (fun c_137 => ?_) (fun c_137 => ?_)
                          ·
                            omega
                          ·
                            refine x_iconst ho d_MO_pieces_140 ?_
                            refine x_goto (tgt := 145) ho d_MO_pieces_141 (by decide) ?_
                            refine x_iadd ho d_MO_pieces_145 ?_
                            refine x_istore_n (L' := [(3, zV (n + 1)), (6, zV i), (5, zV s), (4, zV p), (0, .ref m), (1, zV z1), (2, zV z2)]) ho d_MO_pieces_146 (by decide) rfl ?_
                            refine x_iinc (L' := [(4, zV (p + 1)), (3, zV (n + 1)), (6, zV i), (5, zV s), (0, .ref m), (1, zV z1), (2, zV z2)]) ho 3 d_MO_pieces_147 rfl rfl (by decide) rfl ?_
                            refine x_goto (tgt := 27) ho d_MO_pieces_150 (by decide) ?_
                            refine x_sub (L' := [(4, zV (p + 1)), (3, zV (n + 1)), (0, .ref m), (1, zV z1), (2, zV z2)]) [0, 1, 4, 5, 6] rfl ?_
                            exact ih_27 (p + 1) (n + 1) (by omega) (by omega) (by rcases hfst with h | h; rw [pc_t (P := fun p => fstP V.1.2.1 p z1 ∧ ctP V.1.2.1 (fun q => eqP V.1.2.1 q p z1) p z1 z2 (nP V.1.2.1 z1).toNat) (by omega) ⟨h.2, fun w => by omega, fun w => by omega, fun w => by omega⟩, hN]; omega) (by omega)
                        ·
                          refine x_aload_n ho 4 d_MO_pieces_112 rfl ?_
                          refine x_iload ho 2 d_MO_pieces_113 rfl ?_
                          refine x_iload_n ho 5 d_MO_pieces_115 rfl ?_
                          refine x_iload_n ho 6 d_MO_pieces_116 rfl ?_
                          refine x_iconst ho d_MO_pieces_117 ?_
                          refine x_icmp_ne (tgt := 125) ho d_MO_pieces_118 (by decide) (by omega) (by omega) (fun c_118 => ?_) (fun c_118 => ?_)
                          ·
                            refine x_iconst ho d_MO_pieces_125 ?_
                            refine x_eqI (b := bI (False)) (by exact (bI_f (fun q => q)).symm) ?_
                            refine x_callV (rest := []) ho d_MO_pieces_126 yv_MO_around g_986 g_49 g_985 (c_MO_around M.2.1 D m ((V.2.2.2.1.length : Int)) V.2.2.1 o_fo o_di ((V.2.2.2.2.length : Int)) o_az V.1 p z1 False (by omega) (by omega)) rfl rfl ⟨Nat.le_of_ble_eq_true rfl, Nat.le_of_ble_eq_true rfl⟩ ⟨Nat.le_of_ble_eq_true rfl, Nat.le_of_ble_eq_true rfl⟩ rfl rfl (Nat.le_of_ble_eq_true rfl) a_o rfl rfl ⟨a_o, a_n⟩ fr_none' (x_rd (fun v_8 hv_8 => ?_))
                            obtain ⟨rfl, nb_10⟩ := hv_8
                            show X _ _ _ _ _ _ _ _ _ [zV (nbN V.1.2.1 (fun z => eqP V.1.2.1 z p z1) (cif False (-1) z1) (nP V.1.2.1 z1).toNat)] _
                            refine x_callS (rest := []) ho d_MO_pieces_129 yv_MO_isMany g_989 g_988 (c_MO_isMany M.2.1 D (nbN V.1.2.1 (fun z => eqP V.1.2.1 z p z1) (cif False (-1) z1) (nP V.1.2.1 z1).toNat) (by omega)) rfl rfl ⟨Nat.le_of_ble_eq_true rfl, Nat.le_of_ble_eq_true rfl⟩ ⟨Nat.le_of_ble_eq_true rfl, Nat.le_of_ble_eq_true rfl⟩ rfl rfl (Nat.le_of_ble_eq_true rfl) trivial fr_none' (x_rd (fun v_11 hv_11 => ?_))
                            obtain rfl := hv_11
                            show X _ _ _ _ _ _ _ _ _ [zV (bI (2 ≤ pop (nbN V.1.2.1 (fun z => eqP V.1.2.1 z p z1) (cif False (-1) z1) (nP V.1.2.1 z1).toNat)))] _
                            refine x_istore (L' := [(5, zV (bI (2 ≤ pop (nbN V.1.2.1 (fun z => eqP V.1.2.1 z p z1) (cif False (-1) z1) (nP V.1.2.1 z1).toNat)))), (6, zV i), (4, zV p), (3, zV n), (0, .ref m), (1, zV z1), (2, zV z2)]) ho d_MO_pieces_132 (by decide) rfl ?_
                            refine x_iload_n ho 3 d_MO_pieces_134 rfl ?_
                            refine x_iload ho 0 d_MO_pieces_135 rfl ?_
                            refine x_if_eqB (tgt := 144) ho d_MO_pieces_137 (by decide) (fun c_137 => ?_) (fun c_137 => ?_)
                            ·
                              refine x_iconst ho d_MO_pieces_144 ?_
                              refine x_iadd ho d_MO_pieces_145 ?_
                              refine x_istore_n (L' := [(3, zV (n + 0)), (5, zV (bI (2 ≤ pop (nbN V.1.2.1 (fun z => eqP V.1.2.1 z p z1) (cif False (-1) z1) (nP V.1.2.1 z1).toNat)))), (6, zV i), (4, zV p), (0, .ref m), (1, zV z1), (2, zV z2)]) ho d_MO_pieces_146 (by decide) rfl ?_
                              refine x_iinc (L' := [(4, zV (p + 1)), (3, zV (n + 0)), (5, zV (bI (2 ≤ pop (nbN V.1.2.1 (fun z => eqP V.1.2.1 z p z1) (cif False (-1) z1) (nP V.1.2.1 z1).toNat)))), (6, zV i), (0, .ref m), (1, zV z1), (2, zV z2)]) ho 3 d_MO_pieces_147 rfl rfl (by decide) rfl ?_
                              refine x_goto (tgt := 27) ho d_MO_pieces_150 (by decide) ?_
                              refine x_sub (L' := [(4, zV (p + 1)), (3, zV (n + 0)), (0, .ref m), (1, zV z1), (2, zV z2)]) [0, 1, 4, 5, 6] rfl ?_
                              exact ih_27 (p + 1) (n + 0) (by omega) (by omega) (by rw [pc_f (P := fun p => fstP V.1.2.1 p z1 ∧ ctP V.1.2.1 (fun q => eqP V.1.2.1 q p z1) p z1 z2 (nP V.1.2.1 z1).toNat) (by omega) (fun w => c_137 (by rw [cif_f (P := False) (fun q => q)]; exact w.2.1 (by omega))), hN]) (by omega)
                            ·
                              refine x_iconst ho d_MO_pieces_140 ?_
                              refine x_goto (tgt := 145) ho d_MO_pieces_141 (by decide) ?_
                              refine x_iadd ho d_MO_pieces_145 ?_
                              refine x_istore_n (L' := [(3, zV (n + 1)), (5, zV (bI (2 ≤ pop (nbN V.1.2.1 (fun z => eqP V.1.2.1 z p z1) (cif False (-1) z1) (nP V.1.2.1 z1).toNat)))), (6, zV i), (4, zV p), (0, .ref m), (1, zV z1), (2, zV z2)]) ho d_MO_pieces_146 (by decide) rfl ?_
                              refine x_iinc (L' := [(4, zV (p + 1)), (3, zV (n + 1)), (5, zV (bI (2 ≤ pop (nbN V.1.2.1 (fun z => eqP V.1.2.1 z p z1) (cif False (-1) z1) (nP V.1.2.1 z1).toNat)))), (6, zV i), (0, .ref m), (1, zV z1), (2, zV z2)]) ho 3 d_MO_pieces_147 rfl rfl (by decide) rfl ?_
                              refine x_goto (tgt := 27) ho d_MO_pieces_150 (by decide) ?_
                              refine x_sub (L' := [(4, zV (p + 1)), (3, zV (n + 1)), (0, .ref m), (1, zV z1), (2, zV z2)]) [0, 1, 4, 5, 6] rfl ?_
                              exact ih_27 (p + 1) (n + 1) (by omega) (by omega) (by rcases hfst with h | h; rw [pc_t (P := fun p => fstP V.1.2.1 p z1 ∧ ctP V.1.2.1 (fun q => eqP V.1.2.1 q p z1) p z1 z2 (nP V.1.2.1 z1).toNat) (by omega) ⟨h.2, fun _ => by have c := c_137; rw [cif_f (P := False) (fun q => q)] at c; exact c, fun w => by omega, fun w => by omega⟩, hN]; omega) (by omega)
                          ·
                            refine x_iconst ho d_MO_pieces_121 ?_
                            refine x_eqI (b := bI (True)) (by exact (bI_t trivial).symm) ?_
                            refine x_goto (tgt := 126) ho d_MO_pieces_122 (by decide) ?_
                            refine x_callV (rest := []) ho d_MO_pieces_126 yv_MO_around g_986 g_49 g_985 (c_MO_around M.2.1 D m ((V.2.2.2.1.length : Int)) V.2.2.1 o_fo o_di ((V.2.2.2.2.length : Int)) o_az V.1 p z1 True (by omega) (by omega)) rfl rfl ⟨Nat.le_of_ble_eq_true rfl, Nat.le_of_ble_eq_true rfl⟩ ⟨Nat.le_of_ble_eq_true rfl, Nat.le_of_ble_eq_true rfl⟩ rfl rfl (Nat.le_of_ble_eq_true rfl) a_o rfl rfl ⟨a_o, a_n⟩ fr_none' (x_rd (fun v_13 hv_13 => ?_))
                            obtain ⟨rfl, nb_15⟩ := hv_13
                            show X _ _ _ _ _ _ _ _ _ [zV (nbN V.1.2.1 (fun z => eqP V.1.2.1 z p z1) (cif True (-1) z1) (nP V.1.2.1 z1).toNat)] _
                            refine x_callS (rest := []) ho d_MO_pieces_129 yv_MO_isMany g_989 g_988 (c_MO_isMany M.2.1 D (nbN V.1.2.1 (fun z => eqP V.1.2.1 z p z1) (cif True (-1) z1) (nP V.1.2.1 z1).toNat) (by omega)) rfl rfl ⟨Nat.le_of_ble_eq_true rfl, Nat.le_of_ble_eq_true rfl⟩ ⟨Nat.le_of_ble_eq_true rfl, Nat.le_of_ble_eq_true rfl⟩ rfl rfl (Nat.le_of_ble_eq_true rfl) trivial fr_none' (x_rd (fun v_16 hv_16 => ?_))
                            obtain rfl := hv_16
                            show X _ _ _ _ _ _ _ _ _ [zV (bI (2 ≤ pop (nbN V.1.2.1 (fun z => eqP V.1.2.1 z p z1) (cif True (-1) z1) (nP V.1.2.1 z1).toNat)))] _
                            refine x_istore (L' := [(5, zV (bI (2 ≤ pop (nbN V.1.2.1 (fun z => eqP V.1.2.1 z p z1) (cif True (-1) z1) (nP V.1.2.1 z1).toNat)))), (6, zV i), (4, zV p), (3, zV n), (0, .ref m), (1, zV z1), (2, zV z2)]) ho d_MO_pieces_132 (by decide) rfl ?_
                            refine x_iload_n ho 3 d_MO_pieces_134 rfl ?_
                            refine x_iload ho 0 d_MO_pieces_135 rfl ?_
                            refine x_if_eqB (tgt := 144) ho d_MO_pieces_137 (by decide) (fun c_137 => ?_) (fun c_137 => ?_)
                            ·
                              refine x_iconst ho d_MO_pieces_144 ?_
                              refine x_iadd ho d_MO_pieces_145 ?_
                              refine x_istore_n (L' := [(3, zV (n + 0)), (5, zV (bI (2 ≤ pop (nbN V.1.2.1 (fun z => eqP V.1.2.1 z p z1) (cif True (-1) z1) (nP V.1.2.1 z1).toNat)))), (6, zV i), (4, zV p), (0, .ref m), (1, zV z1), (2, zV z2)]) ho d_MO_pieces_146 (by decide) rfl ?_
                              refine x_iinc (L' := [(4, zV (p + 1)), (3, zV (n + 0)), (5, zV (bI (2 ≤ pop (nbN V.1.2.1 (fun z => eqP V.1.2.1 z p z1) (cif True (-1) z1) (nP V.1.2.1 z1).toNat)))), (6, zV i), (0, .ref m), (1, zV z1), (2, zV z2)]) ho 3 d_MO_pieces_147 rfl rfl (by decide) rfl ?_
                              refine x_goto (tgt := 27) ho d_MO_pieces_150 (by decide) ?_
                              refine x_sub (L' := [(4, zV (p + 1)), (3, zV (n + 0)), (0, .ref m), (1, zV z1), (2, zV z2)]) [0, 1, 4, 5, 6] rfl ?_
                              exact ih_27 (p + 1) (n + 0) (by omega) (by omega) (by rw [pc_f (P := fun p => fstP V.1.2.1 p z1 ∧ ctP V.1.2.1 (fun q => eqP V.1.2.1 q p z1) p z1 z2 (nP V.1.2.1 z1).toNat) (by omega) (fun w => c_137 (by rw [cif_t (P := True) trivial]; exact w.2.2.1 (by omega))), hN]) (by omega)
                            ·
                              refine x_iconst ho d_MO_pieces_140 ?_
                              refine x_goto (tgt := 145) ho d_MO_pieces_141 (by decide) ?_
                              refine x_iadd ho d_MO_pieces_145 ?_
                              refine x_istore_n (L' := [(3, zV (n + 1)), (5, zV (bI (2 ≤ pop (nbN V.1.2.1 (fun z => eqP V.1.2.1 z p z1) (cif True (-1) z1) (nP V.1.2.1 z1).toNat)))), (6, zV i), (4, zV p), (0, .ref m), (1, zV z1), (2, zV z2)]) ho d_MO_pieces_146 (by decide) rfl ?_
                              refine x_iinc (L' := [(4, zV (p + 1)), (3, zV (n + 1)), (5, zV (bI (2 ≤ pop (nbN V.1.2.1 (fun z => eqP V.1.2.1 z p z1) (cif True (-1) z1) (nP V.1.2.1 z1).toNat)))), (6, zV i), (0, .ref m), (1, zV z1), (2, zV z2)]) ho 3 d_MO_pieces_147 rfl rfl (by decide) rfl ?_
                              refine x_goto (tgt := 27) ho d_MO_pieces_150 (by decide) ?_
                              refine x_sub (L' := [(4, zV (p + 1)), (3, zV (n + 1)), (0, .ref m), (1, zV z1), (2, zV z2)]) [0, 1, 4, 5, 6] rfl ?_
                              exact ih_27 (p + 1) (n + 1) (by omega) (by omega) (by rcases hfst with h | h; rw [pc_t (P := fun p => fstP V.1.2.1 p z1 ∧ ctP V.1.2.1 (fun q => eqP V.1.2.1 q p z1) p z1 z2 (nP V.1.2.1 z1).toNat) (by omega) ⟨h.2, fun w => by omega, fun _ => by have c := c_137; rw [cif_t (P := True) trivial] at c; exact c, fun w => by omega⟩, hN]; omega) (by omega)
                    ·
                      refine x_aload_n ho 4 d_MO_pieces_91 rfl ?_
                      refine x_iload ho 2 d_MO_pieces_92 rfl ?_
                      refine x_iload_n ho 5 d_MO_pieces_94 rfl ?_
                      refine x_callV (rest := []) ho d_MO_pieces_95 yv_MO_isMirrored g_983 g_48 g_982 (c_MO_isMirrored M.2.1 D m ((V.2.2.2.1.length : Int)) V.2.2.1 o_fo o_di ((V.2.2.2.2.length : Int)) o_az V.1 p z1 (by omega) (by omega)) rfl rfl ⟨Nat.le_of_ble_eq_true rfl, Nat.le_of_ble_eq_true rfl⟩ ⟨Nat.le_of_ble_eq_true rfl, Nat.le_of_ble_eq_true rfl⟩ rfl rfl (Nat.le_of_ble_eq_true rfl) a_o rfl rfl ⟨a_o, a_n⟩ fr_none' (x_rd (fun v_18 hv_18 => ?_))
                      obtain rfl := hv_18
                      show X _ _ _ _ _ _ _ _ _ [zV (bI (mir V.1.2.1 p z1))] _
                      refine x_istore (L' := [(5, zV (bI (mir V.1.2.1 p z1))), (6, zV i), (4, zV p), (3, zV n), (0, .ref m), (1, zV z1), (2, zV z2)]) ho d_MO_pieces_98 (by decide) rfl ?_
                      refine x_goto (tgt := 134) ho d_MO_pieces_100 (by decide) ?_
                      refine x_iload_n ho 3 d_MO_pieces_134 rfl ?_
                      refine x_iload ho 0 d_MO_pieces_135 rfl ?_
                      refine x_if_eqB (tgt := 144) ho d_MO_pieces_137 (by decide) (fun c_137 => ?_) (fun c_137 => ?_)
                      ·
                        refine x_iconst ho d_MO_pieces_144 ?_
                        refine x_iadd ho d_MO_pieces_145 ?_
                        refine x_istore_n (L' := [(3, zV (n + 0)), (5, zV (bI (mir V.1.2.1 p z1))), (6, zV i), (4, zV p), (0, .ref m), (1, zV z1), (2, zV z2)]) ho d_MO_pieces_146 (by decide) rfl ?_
                        refine x_iinc (L' := [(4, zV (p + 1)), (3, zV (n + 0)), (5, zV (bI (mir V.1.2.1 p z1))), (6, zV i), (0, .ref m), (1, zV z1), (2, zV z2)]) ho 3 d_MO_pieces_147 rfl rfl (by decide) rfl ?_
                        refine x_goto (tgt := 27) ho d_MO_pieces_150 (by decide) ?_
                        refine x_sub (L' := [(4, zV (p + 1)), (3, zV (n + 0)), (0, .ref m), (1, zV z1), (2, zV z2)]) [0, 1, 4, 5, 6] rfl ?_
                        exact ih_27 (p + 1) (n + 0) (by omega) (by omega) (by rw [pc_f (P := fun p => fstP V.1.2.1 p z1 ∧ ctP V.1.2.1 (fun q => eqP V.1.2.1 q p z1) p z1 z2 (nP V.1.2.1 z1).toNat) (by omega) (fun w => c_137 (w.2.2.2 (by omega))), hN]) (by omega)
                      ·
                        refine x_iconst ho d_MO_pieces_140 ?_
                        refine x_goto (tgt := 145) ho d_MO_pieces_141 (by decide) ?_
                        refine x_iadd ho d_MO_pieces_145 ?_
                        refine x_istore_n (L' := [(3, zV (n + 1)), (5, zV (bI (mir V.1.2.1 p z1))), (6, zV i), (4, zV p), (0, .ref m), (1, zV z1), (2, zV z2)]) ho d_MO_pieces_146 (by decide) rfl ?_
                        refine x_iinc (L' := [(4, zV (p + 1)), (3, zV (n + 1)), (5, zV (bI (mir V.1.2.1 p z1))), (6, zV i), (0, .ref m), (1, zV z1), (2, zV z2)]) ho 3 d_MO_pieces_147 rfl rfl (by decide) rfl ?_
                        refine x_goto (tgt := 27) ho d_MO_pieces_150 (by decide) ?_
                        refine x_sub (L' := [(4, zV (p + 1)), (3, zV (n + 1)), (0, .ref m), (1, zV z1), (2, zV z2)]) [0, 1, 4, 5, 6] rfl ?_
                        exact ih_27 (p + 1) (n + 1) (by omega) (by omega) (by rcases hfst with h | h; rw [pc_t (P := fun p => fstP V.1.2.1 p z1 ∧ ctP V.1.2.1 (fun q => eqP V.1.2.1 q p z1) p z1 z2 (nP V.1.2.1 z1).toNat) (by omega) ⟨h.2, fun w => by omega, fun w => by omega, fun _ => c_137⟩, hN]; omega) (by omega)
                ·
                  refine x_iload ho 1 d_MO_pieces_51 rfl ?_
                  refine x_if_eq (tgt := 81) ho d_MO_pieces_53 (by decide) (by omega) (fun c_53 => ?_) (fun c_53 => ?_)
                  ·
                    have hfst : (s = 1 ∧ fstP V.1.2.1 p z1) ∨ (s = 0 ∧ ¬ fstP V.1.2.1 p z1) := by rcases hs with h | h; omega; exact Or.inr h
                    refine x_iload ho 1 d_MO_pieces_81 rfl ?_
                    refine x_if_eq (tgt := 103) ho d_MO_pieces_83 (by decide) (by omega) (fun c_83 => ?_) (fun c_83 => ?_)
                    ·
                      refine x_iload ho 1 d_MO_pieces_103 rfl ?_
                      refine x_if_eq (tgt := 134) ho d_MO_pieces_105 (by decide) (by omega) (fun c_105 => ?_) (fun c_105 => ?_)
                      ·
                        refine x_iload_n ho 3 d_MO_pieces_134 rfl ?_
                        refine x_iload ho 1 d_MO_pieces_135 rfl ?_
                        refine x_if_eq (tgt := 144) ho d_MO_pieces_137 (by decide) (by omega) (fun c_137 => ?_) (fun c_137 => ?_)
                        ·
                          refine x_iconst ho d_MO_pieces_144 ?_
                          refine x_iadd ho d_MO_pieces_145 ?_
                          refine x_istore_n (L' := [(3, zV (n + 0)), (6, zV i), (5, zV s), (4, zV p), (0, .ref m), (1, zV z1), (2, zV z2)]) ho d_MO_pieces_146 (by decide) rfl ?_
                          refine x_iinc (L' := [(4, zV (p + 1)), (3, zV (n + 0)), (6, zV i), (5, zV s), (0, .ref m), (1, zV z1), (2, zV z2)]) ho 3 d_MO_pieces_147 rfl rfl (by decide) rfl ?_
                          refine x_goto (tgt := 27) ho d_MO_pieces_150 (by decide) ?_
                          refine x_sub (L' := [(4, zV (p + 1)), (3, zV (n + 0)), (0, .ref m), (1, zV z1), (2, zV z2)]) [0, 1, 4, 5, 6] rfl ?_
                          exact ih_27 (p + 1) (n + 0) (by omega) (by omega) (by rcases hfst with h | h; omega; rw [pc_f (P := fun p => fstP V.1.2.1 p z1 ∧ ctP V.1.2.1 (fun q => eqP V.1.2.1 q p z1) p z1 z2 (nP V.1.2.1 z1).toNat) (by omega) (fun w => h.2 w.1), hN]) (by omega)
                        ·
                          omega
                      ·
                        omega
                    ·
                      omega
                  ·
                    refine x_aload_n ho 4 d_MO_pieces_56 rfl ?_
                    refine x_iload ho 2 d_MO_pieces_57 rfl ?_
                    refine x_iload ho 0 d_MO_pieces_59 rfl ?_
                    refine x_iload_n ho 5 d_MO_pieces_61 rfl ?_
                    refine x_callV (rest := []) ho d_MO_pieces_62 yv_MO_isSamePiece g_980 g_47 g_979 (c_MO_isSamePiece M.2.1 D m ((V.2.2.2.1.length : Int)) V.2.2.1 o_fo o_di ((V.2.2.2.2.length : Int)) o_az V.1 p i z1 (by omega) (by omega) (by omega)) rfl rfl ⟨Nat.le_of_ble_eq_true rfl, Nat.le_of_ble_eq_true rfl⟩ ⟨Nat.le_of_ble_eq_true rfl, Nat.le_of_ble_eq_true rfl⟩ rfl rfl (Nat.le_of_ble_eq_true rfl) a_o rfl rfl ⟨a_o, a_n⟩ fr_none' (x_rd (fun v_20 hv_20 => ?_))
                    obtain rfl := hv_20
                    show X _ _ _ _ _ _ _ _ _ [zV (bI (eqP V.1.2.1 p i z1))] _
                    refine x_if_neB (tgt := 72) ho d_MO_pieces_65 (by decide) (fun c_65 => ?_) (fun c_65 => ?_)
                    ·
                      refine x_iconst ho d_MO_pieces_72 ?_
                      refine x_istore (L' := [(5, zV 0), (6, zV i), (4, zV p), (3, zV n), (0, .ref m), (1, zV z1), (2, zV z2)]) ho d_MO_pieces_73 (by decide) rfl ?_
                      refine x_iinc (L' := [(6, zV (i + 1)), (5, zV 0), (4, zV p), (3, zV n), (0, .ref m), (1, zV z1), (2, zV z2)]) ho 1 d_MO_pieces_75 rfl rfl (by decide) rfl ?_
                      refine x_goto (tgt := 44) ho d_MO_pieces_78 (by decide) ?_
                      exact ih_44 (i + 1) 0 (by omega) (by omega) (by exact Or.inr ⟨rfl, fun w => w i (by omega) (by omega) (eqP_s c_65)⟩) (by omega)
                    ·
                      refine x_iconst ho d_MO_pieces_68 ?_
                      refine x_goto (tgt := 73) ho d_MO_pieces_69 (by decide) ?_
                      refine x_istore (L' := [(5, zV 1), (6, zV i), (4, zV p), (3, zV n), (0, .ref m), (1, zV z1), (2, zV z2)]) ho d_MO_pieces_73 (by decide) rfl ?_
                      refine x_iinc (L' := [(6, zV (i + 1)), (5, zV 1), (4, zV p), (3, zV n), (0, .ref m), (1, zV z1), (2, zV z2)]) ho 1 d_MO_pieces_75 rfl rfl (by decide) rfl ?_
                      refine x_goto (tgt := 44) ho d_MO_pieces_78 (by decide) ?_
                      exact ih_44 (i + 1) 1 (by omega) (by omega) (by rcases hs with h | h; refine Or.inl ⟨rfl, fun e a b => ?_⟩; rcases (show e < i ∨ e = i by omega) with z | z; exact h.2 e a z; rw [z]; exact fun w => c_65 (eqP_s w); omega) (by omega)
            exact loop_44 _ 0 1 (by omega) (by omega) (by exact Or.inl ⟨rfl, fun e a b => by omega⟩) (Nat.lt_succ_self _)
      exact loop_27 _ 0 0 (by omega) (by omega) (by rfl) (Nat.lt_succ_self _)
    ·
      have z_5 : ¬ ((1 ≤ z1 ∧ z1 ≤ 20) ∧ 0 ≤ z2 ∧ z2 ≤ 3) := fun q => c_16 q.2
      refine x_bipush (z := (-2)) ho d_MO_pieces_19 (by decide) ?_
      refine x_iret ho hr d_MO_pieces_21 ?_
      exact ⟨rI (by unfold r_pieces; rw [cif_f (z_5)]), isO_mk a_o a_n a_h a_s a_t a_b a_p a_u a_x a_c a_e a_y a_k⟩
def q_MO_divisor (D : GG) (a : Int) (b : Int) : Option Value → Heap → Prop := fun v0 H => v0 = some (zV (dv a b)) ∧ (1 ≤ dv a b ∧ dv a b ≤ 300)
theorem yv_MO_divisor : Yv y_MO_divisor b_MO_divisor 5 (Option.some FieldType.int) 2 := ⟨g_1004, g_65, by decide, by decide +kernel⟩
set_option maxHeartbeats 4000000 in
set_option maxRecDepth 100000 in
theorem c_MO_divisor (l0 : Launch) (D : GG) (a : Int) (b : Int) (ha : 0 ≤ a ∧ a ≤ 300) (hb : 1 ≤ b ∧ b ≤ 300) : Ct l0 D y_MO_divisor b_MO_divisor 5 (Option.some FieldType.int) ({ frames := 0, cells := 0, slots := 0, locals := 0 } : Room) [zV a, zV b] (fun H => True) nA 0 0 (q_MO_divisor D a b) := by
  refine Ct.of (L := [(0, zV a), (1, zV b)]) (by decide) (Nat.le_of_ble_eq_true rfl) rfl (fun M H ho hr hnm hH hpre => ?_)
  have hdv := dv_1 (a := a) hb.1
  refine x_iload_n ho 0 d_MO_divisor_0 rfl ?_
  refine x_istore_n (L' := [(2, zV a), (0, zV a), (1, zV b)]) ho d_MO_divisor_1 (by decide) rfl ?_
  refine x_iload_n ho 2 d_MO_divisor_2 rfl ?_
  refine x_istore_n (L' := [(3, zV b), (2, zV a), (0, zV a), (1, zV b)]) ho d_MO_divisor_3 (by decide) rfl ?_
  have loop_4 : ∀ (kk : Nat) (y : Int) (z : Int) (hyz : 0 ≤ y ∧ 0 ≤ z ∧ y ≤ 300 ∧ z ≤ 300) (hg : dv y z = dv a b), z.toNat < kk → X M ({ frames := 0, cells := 0, slots := 0, locals := 0 } : Room) 5 nA 0 0 (Qof M nA (q_MO_divisor D a b) 0 0) 4 [(3, zV z), (2, zV y), (0, zV a), (1, zV b)] [] H := by
    intro kk
    induction kk with
    | zero => intro y z hyz hg hk; exact absurd hk (Nat.not_lt_zero _)
    | succ kk ih_4 =>
      intro y z hyz hg hk_4
      refine x_iload_n ho 0 d_MO_divisor_4 rfl ?_
      refine x_if_le (tgt := 21) ho d_MO_divisor_5 (by decide) (by omega) (fun c_5 => ?_) (fun c_5 => ?_)
      ·
        refine x_iload_n ho 1 d_MO_divisor_21 rfl ?_
        refine x_iret ho hr d_MO_divisor_22 ?_
        rw [show z = 0 by omega, dv_0 (by omega)] at hg
        exact ⟨rI (by rw [← hg]), by omega⟩
      ·
        refine x_iload_n ho 1 d_MO_divisor_8 rfl ?_
        refine x_iload_n ho 0 d_MO_divisor_9 rfl ?_
        refine x_irem ho d_MO_divisor_10 (by omega) (by omega) ?_
        refine x_istore (L' := [(4, zV (y % z)), (3, zV z), (2, zV y), (0, zV a), (1, zV b)]) ho d_MO_divisor_11 (by decide) rfl ?_
        refine x_iload_n ho 1 d_MO_divisor_13 rfl ?_
        refine x_istore_n (L' := [(2, zV z), (4, zV (y % z)), (3, zV z), (0, zV a), (1, zV b)]) ho d_MO_divisor_14 (by decide) rfl ?_
        refine x_iload ho 1 d_MO_divisor_15 rfl ?_
        refine x_istore_n (L' := [(3, zV (y % z)), (2, zV z), (4, zV (y % z)), (0, zV a), (1, zV b)]) ho d_MO_divisor_17 (by decide) rfl ?_
        refine x_goto (tgt := 4) ho d_MO_divisor_18 (by decide) ?_
        refine x_sub (L' := [(3, zV (y % z)), (2, zV z), (0, zV a), (1, zV b)]) [0, 1, 3, 4] rfl ?_
        exact ih_4 z (y % z) (by have h1 := Int.emod_nonneg y (b := z) (by omega); have h2 := Int.emod_lt_of_pos y (b := z) (by omega); omega) (by rw [← hg]; exact dv_step (by omega) (by omega)) (by have h1 := Int.emod_nonneg y (b := z) (by omega); have h2 := Int.emod_lt_of_pos y (b := z) (by omega); omega)
  exact loop_4 _ a b (by omega) (by rfl) (Nat.lt_succ_self _)
def q_MO_share (D : GG) (m : Nat) (V : WV) (z1 : Int) (z2 : Int) : Option Value → Heap → Prop := fun v0 H => v0 = some (zV (r_share z1 z2 V)) ∧ isO D H m V
theorem yv_MO_share : Yv y_MO_share b_MO_share 4 (Option.some FieldType.int) 2 := ⟨g_1001, g_65, by decide, by decide +kernel⟩
set_option maxHeartbeats 4000000 in
set_option maxRecDepth 100000 in
theorem c_MO_share (l0 : Launch) (D : GG) (m : Nat) (V : WV) (z1 : Int) (z2 : Int) (hz1 : -2147483648 ≤ z1 ∧ z1 ≤ 2147483647) (hz2 : -2147483648 ≤ z2 ∧ z2 ≤ 2147483647) : Ct l0 D y_MO_share b_MO_share 4 (Option.some FieldType.int) ({ frames := 2, cells := 0, slots := 0, locals := 46 } : Room) [.ref m, zV z1, zV z2] (fun H => isO D H m V) (rA m (m + 12)) 0 0 (q_MO_share D m V z1 z2) := by
  refine Ct.of (L := [(0, .ref m), (1, zV z1), (2, zV z2)]) (by decide) (Nat.le_of_ble_eq_true rfl) rfl (fun M H ho hr hnm hH hpre => ?_)
  have hW := hpre
  obtain ⟨o_fo, o_di, o_az, o_t, o_b, o_p, o_u, o_c, o_e, o_y, a_o, a_n, a_h, a_s, a_t, a_b, a_p, a_u, a_x, a_c, a_e, a_y, a_k⟩ := id hW
  have n_o := a_n.ok
  have n_1 := n_o.1
  have n_2 := n_o.2.1
  have n_3 := n_o.2.2
  have h_b := a_h.b
  refine x_iload_n ho 1 d_MO_share_0 rfl ?_
  refine x_callS (rest := []) ho d_MO_share_1 yv_MO_no g_856 g_855 (c_MO_no M.2.1 D z1 (by omega)) rfl rfl ⟨Nat.le_of_ble_eq_true rfl, Nat.le_of_ble_eq_true rfl⟩ ⟨Nat.le_of_ble_eq_true rfl, Nat.le_of_ble_eq_true rfl⟩ rfl rfl (Nat.le_of_ble_eq_true rfl) trivial fr_none' (x_rd (fun v_1 hv_1 => ?_))
  obtain rfl := hv_1
  show X _ _ _ _ _ _ _ _ _ [zV (bI (¬ isA z1))] _
  refine x_if_eqB (tgt := 9) ho d_MO_share_4 (by decide) (fun c_4 => ?_) (fun c_4 => ?_)
  ·
    have z_4 : isA z1 := Classical.not_not.mp c_4
    refine x_iload_n ho 2 d_MO_share_9 rfl ?_
    refine x_iconst ho d_MO_share_10 ?_
    refine x_iconst ho d_MO_share_11 ?_
    refine x_callS (rest := []) ho d_MO_share_12 yv_MO_in g_823 g_822 (c_MO_in M.2.1 D z2 0 1 (by omega) (by omega) (by omega)) rfl rfl ⟨Nat.le_of_ble_eq_true rfl, Nat.le_of_ble_eq_true rfl⟩ ⟨Nat.le_of_ble_eq_true rfl, Nat.le_of_ble_eq_true rfl⟩ rfl rfl (Nat.le_of_ble_eq_true rfl) trivial fr_none' (x_rd (fun v_3 hv_3 => ?_))
    obtain rfl := hv_3
    show X _ _ _ _ _ _ _ _ _ [zV (bI (0 ≤ z2 ∧ z2 ≤ 1))] _
    refine x_if_neB (tgt := 21) ho d_MO_share_15 (by decide) (fun c_15 => ?_) (fun c_15 => ?_)
    ·
      refine x_aload_n ho 0 d_MO_share_21 rfl ?_
      refine x_iload_n ho 1 d_MO_share_22 rfl ?_
      refine x_iconst ho d_MO_share_23 ?_
      refine x_aload_n ho 0 d_MO_share_24 rfl ?_
      refine x_callV (rest := [zV 0, zV z1, .ref m]) ho d_MO_share_25 yv_MO_length g_862 g_31 g_861 (c_MO_length M.2.1 D m ((V.2.2.2.1.length : Int)) V.2.2.1 o_fo o_di ((V.2.2.2.2.length : Int)) o_az V.1 ) rfl rfl ⟨Nat.le_of_ble_eq_true rfl, Nat.le_of_ble_eq_true rfl⟩ ⟨Nat.le_of_ble_eq_true rfl, Nat.le_of_ble_eq_true rfl⟩ rfl rfl (Nat.le_of_ble_eq_true rfl) a_o rfl rfl ⟨a_o, a_n⟩ fr_none' (x_rd (fun v_5 hv_5 => ?_))
      obtain ⟨rfl, lb_7⟩ := hv_5
      show X _ _ _ _ _ _ _ _ _ [zV ((V.1.2.1.length : Int)), zV 0, zV z1, .ref m] _
      refine x_callV (rest := []) ho d_MO_share_28 yv_MO_times g_996 g_50 g_995 (c_MO_times M.2.1 D m ((V.2.2.2.1.length : Int)) V.2.2.1 o_fo o_di ((V.2.2.2.2.length : Int)) o_az V.1 z1 0 ((V.1.2.1.length : Int)) (by omega) (by omega) (by omega)) rfl rfl ⟨Nat.le_of_ble_eq_true rfl, Nat.le_of_ble_eq_true rfl⟩ ⟨Nat.le_of_ble_eq_true rfl, Nat.le_of_ble_eq_true rfl⟩ rfl rfl (Nat.le_of_ble_eq_true rfl) a_o rfl rfl ⟨a_o, a_n⟩ fr_none' (x_rd (fun v_8 hv_8 => ?_))
      obtain ⟨rfl, cb_10⟩ := hv_8
      show X _ _ _ _ _ _ _ _ _ [zV (cw V.1.2.1 z1 ((V.1.2.1.length : Int)) 0)] _
      refine x_eqI (b := cn V.1.2.1 z1) (by unfold cw; rw [tk_0, Int.zero_add, tk_all (Int.le_refl _)]; exact Int.sub_zero _) ?_
      have hcn : cw V.1.2.1 z1 ((V.1.2.1.length : Int)) 0 = cn V.1.2.1 z1 := by unfold cw; rw [tk_0, Int.zero_add, tk_all (Int.le_refl _)]; exact Int.sub_zero _
      have hcb := cb_10
      rw [hcn] at hcb
      refine x_istore_n (L' := [(3, zV (cn V.1.2.1 z1)), (0, .ref m), (1, zV z1), (2, zV z2)]) ho d_MO_share_31 (by decide) rfl ?_
      refine x_iload_n ho 3 d_MO_share_32 rfl ?_
      refine x_if_ne (tgt := 40) ho d_MO_share_33 (by decide) (by omega) (fun c_33 => ?_) (fun c_33 => ?_)
      ·
        refine x_aload_n ho 1 d_MO_share_40 rfl ?_
        refine x_callV (rest := []) ho d_MO_share_41 yv_MO_length g_862 g_31 g_861 (c_MO_length M.2.1 D m ((V.2.2.2.1.length : Int)) V.2.2.1 o_fo o_di ((V.2.2.2.2.length : Int)) o_az V.1 ) rfl rfl ⟨Nat.le_of_ble_eq_true rfl, Nat.le_of_ble_eq_true rfl⟩ ⟨Nat.le_of_ble_eq_true rfl, Nat.le_of_ble_eq_true rfl⟩ rfl rfl (Nat.le_of_ble_eq_true rfl) a_o rfl rfl ⟨a_o, a_n⟩ fr_none' (x_rd (fun v_11 hv_11 => ?_))
        obtain ⟨rfl, lb_13⟩ := hv_11
        show X _ _ _ _ _ _ _ _ _ [zV ((V.1.2.1.length : Int))] _
        refine x_iload_n ho 0 d_MO_share_44 rfl ?_
        refine x_aload_n ho 1 d_MO_share_45 rfl ?_
        refine x_callV (rest := [zV (cn V.1.2.1 z1), zV ((V.1.2.1.length : Int))]) ho d_MO_share_46 yv_MO_length g_862 g_31 g_861 (c_MO_length M.2.1 D m ((V.2.2.2.1.length : Int)) V.2.2.1 o_fo o_di ((V.2.2.2.2.length : Int)) o_az V.1 ) rfl rfl ⟨Nat.le_of_ble_eq_true rfl, Nat.le_of_ble_eq_true rfl⟩ ⟨Nat.le_of_ble_eq_true rfl, Nat.le_of_ble_eq_true rfl⟩ rfl rfl (Nat.le_of_ble_eq_true rfl) a_o rfl rfl ⟨a_o, a_n⟩ fr_none' (x_rd (fun v_14 hv_14 => ?_))
        obtain ⟨rfl, lb_16⟩ := hv_14
        show X _ _ _ _ _ _ _ _ _ [zV ((V.1.2.1.length : Int)), zV (cn V.1.2.1 z1), zV ((V.1.2.1.length : Int))] _
        refine x_callS (rest := [zV ((V.1.2.1.length : Int))]) ho d_MO_share_49 yv_MO_divisor g_1003 g_1002 (c_MO_divisor M.2.1 D (cn V.1.2.1 z1) ((V.1.2.1.length : Int)) (by omega) (by omega)) rfl rfl ⟨Nat.le_of_ble_eq_true rfl, Nat.le_of_ble_eq_true rfl⟩ ⟨Nat.le_of_ble_eq_true rfl, Nat.le_of_ble_eq_true rfl⟩ rfl rfl (Nat.le_of_ble_eq_true rfl) trivial fr_none' (x_rd (fun v_17 hv_17 => ?_))
        obtain ⟨rfl, hd_19⟩ := hv_17
        show X _ _ _ _ _ _ _ _ _ [zV (dv (cn V.1.2.1 z1) ((V.1.2.1.length : Int))), zV ((V.1.2.1.length : Int))] _
        have hdd := dv_1 (a := cn V.1.2.1 z1) (b := (V.1.2.1.length : Int)) (by omega)
        refine x_idiv ho d_MO_share_52 (by omega) (by omega) ?_
        refine x_iret ho hr d_MO_share_53 ?_
        exact ⟨rI (by unfold r_share; rw [cif_t (z_4), cif_f (by omega), cif_t (by omega)]), isO_mk a_o a_n a_h a_s a_t a_b a_p a_u a_x a_c a_e a_y a_k⟩
      ·
        refine x_iload_n ho 0 d_MO_share_36 rfl ?_
        refine x_goto (tgt := 44) ho d_MO_share_37 (by decide) ?_
        refine x_iload_n ho 0 d_MO_share_44 rfl ?_
        refine x_aload_n ho 1 d_MO_share_45 rfl ?_
        refine x_callV (rest := [zV (cn V.1.2.1 z1), zV (cn V.1.2.1 z1)]) ho d_MO_share_46 yv_MO_length g_862 g_31 g_861 (c_MO_length M.2.1 D m ((V.2.2.2.1.length : Int)) V.2.2.1 o_fo o_di ((V.2.2.2.2.length : Int)) o_az V.1 ) rfl rfl ⟨Nat.le_of_ble_eq_true rfl, Nat.le_of_ble_eq_true rfl⟩ ⟨Nat.le_of_ble_eq_true rfl, Nat.le_of_ble_eq_true rfl⟩ rfl rfl (Nat.le_of_ble_eq_true rfl) a_o rfl rfl ⟨a_o, a_n⟩ fr_none' (x_rd (fun v_20 hv_20 => ?_))
        obtain ⟨rfl, lb_22⟩ := hv_20
        show X _ _ _ _ _ _ _ _ _ [zV ((V.1.2.1.length : Int)), zV (cn V.1.2.1 z1), zV (cn V.1.2.1 z1)] _
        refine x_callS (rest := [zV (cn V.1.2.1 z1)]) ho d_MO_share_49 yv_MO_divisor g_1003 g_1002 (c_MO_divisor M.2.1 D (cn V.1.2.1 z1) ((V.1.2.1.length : Int)) (by omega) (by omega)) rfl rfl ⟨Nat.le_of_ble_eq_true rfl, Nat.le_of_ble_eq_true rfl⟩ ⟨Nat.le_of_ble_eq_true rfl, Nat.le_of_ble_eq_true rfl⟩ rfl rfl (Nat.le_of_ble_eq_true rfl) trivial fr_none' (x_rd (fun v_23 hv_23 => ?_))
        obtain ⟨rfl, hd_25⟩ := hv_23
        show X _ _ _ _ _ _ _ _ _ [zV (dv (cn V.1.2.1 z1) ((V.1.2.1.length : Int))), zV (cn V.1.2.1 z1)] _
        have hdd := dv_1 (a := cn V.1.2.1 z1) (b := (V.1.2.1.length : Int)) (by omega)
        refine x_idiv ho d_MO_share_52 (by omega) (by omega) ?_
        refine x_iret ho hr d_MO_share_53 ?_
        exact ⟨rI (by unfold r_share; rw [cif_t (z_4), cif_t (by omega)]), isO_mk a_o a_n a_h a_s a_t a_b a_p a_u a_x a_c a_e a_y a_k⟩
    ·
      refine x_bipush (z := (-2)) ho d_MO_share_18 (by decide) ?_
      refine x_iret ho hr d_MO_share_20 ?_
      exact ⟨rI (by unfold r_share; rw [cif_t (z_4), cif_f (by omega), cif_f (by omega)]), isO_mk a_o a_n a_h a_s a_t a_b a_p a_u a_x a_c a_e a_y a_k⟩
  ·
    have z_4 : ¬ isA z1 := c_4
    refine x_iconst ho d_MO_share_7 ?_
    refine x_iret ho hr d_MO_share_8 ?_
    exact ⟨rI (by unfold r_share; rw [cif_f (z_4)]), isO_mk a_o a_n a_h a_s a_t a_b a_p a_u a_x a_c a_e a_y a_k⟩
