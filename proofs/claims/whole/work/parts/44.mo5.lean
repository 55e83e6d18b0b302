def q_MO_comesAt (D : GG) (m : Nat) (kp : Int) (fl : Int) (fo : Int) (di : Int) (ty : Int) (az : Int) (v : SV) (p : Int) : Option Value → Heap → Prop := fun v0 H => v0 = some (zV (bI (occ v.2.1 v.2.2 p)))
theorem yv_MO_comesAt : Yv y_MO_comesAt b_MO_comesAt 4 (Option.some FieldType.boolean) 1 := ⟨g_900, g_65, by decide, by decide +kernel⟩
set_option maxHeartbeats 4000000 in
set_option maxRecDepth 100000 in
theorem c_MO_comesAt (l0 : Launch) (D : GG) (m : Nat) (kp : Int) (fl : Int) (fo : Int) (di : Int) (ty : Int) (az : Int) (v : SV) (p : Int) (hp : 0 ≤ p ∧ p < (v.2.1.length : Int)) : Ct l0 D y_MO_comesAt b_MO_comesAt 4 (Option.some FieldType.boolean) ({ frames := 1, cells := 0, slots := 0, locals := 21 } : Room) [.ref m, zV p] (fun H => At D H m (oO 11 [.ref (m + 1), .ref (m + 2), zV kp, .ref (m + 3), zV fl, .ref (m + 4), .ref (m + 5), .ref (m + 6), zV fo, .ref (m + 7), zV di, zV ty, .ref (m + 8), zV az, .ref (m + 9), .ref (m + 10), .ref (m + 11)]) ∧ isN D H (m + 1) v) nA 0 0 (q_MO_comesAt D m kp fl fo di ty az v p) := by
  refine Ct.of (L := [(0, .ref m), (1, zV p)]) (by decide) (Nat.le_of_ble_eq_true rfl) rfl (fun M H ho hr hnm hH hpre => ?_)
  obtain ⟨t_o, t_n⟩ := hpre
  obtain ⟨n_f, n_a, n_r, n_o⟩ := id t_n
  have n_1 := n_o.1
  have n_2 := n_o.2.1
  have n_3 := n_o.2.2
  refine x_iload_n ho 1 d_MO_comesAt_0 rfl ?_
  refine x_aload_n ho 0 d_MO_comesAt_1 rfl ?_
  refine x_get 0 ho d_MO_comesAt_2 cl_MO (by decide) g_757 t_o rfl ?_
  refine x_sipush (z := 337) ho d_MO_comesAt_5 (by decide) ?_
  refine x_iald ho d_MO_comesAt_8 n_a (by omega) (by omega) (by omega) ?_
  refine x_eqI (b := (v.2.2.length : Int)) (by exact n_r.2.2.1) ?_
  refine x_iadd ho d_MO_comesAt_9 ?_
  refine x_aload_n ho 0 d_MO_comesAt_10 rfl ?_
  refine x_callV (rest := [zV (p + ((v.2.2.length : Int)))]) ho d_MO_comesAt_11 yv_MO_length g_862 g_31 g_861 (c_MO_length M.2.1 D m kp fl fo di ty az v ) rfl rfl ⟨Nat.le_of_ble_eq_true rfl, Nat.le_of_ble_eq_true rfl⟩ ⟨Nat.le_of_ble_eq_true rfl, Nat.le_of_ble_eq_true rfl⟩ rfl rfl (Nat.le_of_ble_eq_true rfl) t_o rfl rfl ⟨t_o, t_n⟩ fr_none' (x_rd (fun v_1 hv_1 => ?_))
  obtain ⟨rfl, lb_3⟩ := hv_1
  show X _ _ _ _ _ _ _ _ _ [zV ((v.2.1.length : Int)), zV (p + ((v.2.2.length : Int)))] _
  refine x_icmp_gt (tgt := 21) ho d_MO_comesAt_14 (by decide) (by omega) (by omega) (fun c_14 => ?_) (fun c_14 => ?_)
  ·
    refine x_iconst ho d_MO_comesAt_21 ?_
    refine x_istore_n (L' := [(2, zV 0), (0, .ref m), (1, zV p)]) ho d_MO_comesAt_22 (by decide) rfl ?_
    refine x_iconst ho d_MO_comesAt_23 ?_
    refine x_istore_n (L' := [(3, zV 0), (2, zV 0), (0, .ref m), (1, zV p)]) ho d_MO_comesAt_24 (by decide) rfl ?_
    have loop_25 : ∀ (kk : Nat) (k : Int) (s : Int) (k0 : 0 ≤ k ∧ k ≤ (v.2.2.length : Int)) (s1 : s = 0 ∨ s = 1) (hk : (s = 1 ∧ p + (v.2.2.length : Int) ≤ (v.2.1.length : Int) ∧ ∀ j : Int, 0 ≤ j → j < k → gA v.2.1 (p + j) = gA v.2.2 j) ∨ (s = 0 ∧ ¬ occ v.2.1 v.2.2 p)), ((v.2.2.length : Int) - k).toNat < kk → X M ({ frames := 1, cells := 0, slots := 0, locals := 21 } : Room) 4 nA 0 0 (Qof M nA (q_MO_comesAt D m kp fl fo di ty az v p) 0 0) 25 [(3, zV k), (2, zV s), (0, .ref m), (1, zV p)] [] H := by
      intro kk
      induction kk with
      | zero => intro k s k0 s1 hk hk; exact absurd hk (Nat.not_lt_zero _)
      | succ kk ih_25 =>
        intro k s k0 s1 hk hk_25
        refine x_iload_n ho 0 d_MO_comesAt_25 rfl ?_
        refine x_aload_n ho 2 d_MO_comesAt_26 rfl ?_
        refine x_get 0 ho d_MO_comesAt_27 cl_MO (by decide) g_757 t_o rfl ?_
        refine x_sipush (z := 337) ho d_MO_comesAt_30 (by decide) ?_
        refine x_iald ho d_MO_comesAt_33 n_a (by omega) (by omega) (by omega) ?_
        refine x_eqI (b := (v.2.2.length : Int)) (by exact n_r.2.2.1) ?_
        refine x_icmp_ge (tgt := 73) ho d_MO_comesAt_34 (by decide) (by omega) (by omega) (fun c_34 => ?_) (fun c_34 => ?_)
        ·
          refine x_iload_n ho 1 d_MO_comesAt_73 rfl ?_
          refine x_eqI (b := bI (occ v.2.1 v.2.2 p)) (by rcases hk with h | h; rw [bI_t (P := occ v.2.1 v.2.2 p) ⟨hp.1, h.2.1, fun j a b => h.2.2 j a (by omega)⟩]; exact h.1; rw [bI_f h.2]; exact h.1) ?_
          refine x_zret ho hr (bI_01 _) d_MO_comesAt_74 ?_
          exact rfl
        ·
          refine x_iload_n ho 1 d_MO_comesAt_37 rfl ?_
          refine x_if_eq (tgt := 73) ho d_MO_comesAt_38 (by decide) (by omega) (fun c_38 => ?_) (fun c_38 => ?_)
          ·
            refine x_iload_n ho 1 d_MO_comesAt_73 rfl ?_
            refine x_eqI (b := bI (occ v.2.1 v.2.2 p)) (by rcases hk with h | h; omega; rw [bI_f h.2]; exact h.1) ?_
            refine x_zret ho hr (bI_01 _) d_MO_comesAt_74 ?_
            exact rfl
          ·
            have h_1 : s = 1 := by omega
            have h_2 : p + (v.2.2.length : Int) ≤ (v.2.1.length : Int) ∧ ∀ j : Int, 0 ≤ j → j < k → gA v.2.1 (p + j) = gA v.2.2 j := by rcases hk with h | h; exact h.2; omega
            have h_4 := gA_r n_3.2 k
            refine x_aload_n ho 2 d_MO_comesAt_41 rfl ?_
            refine x_iload_n ho 3 d_MO_comesAt_42 rfl ?_
            refine x_iload_n ho 0 d_MO_comesAt_43 rfl ?_
            refine x_iadd ho d_MO_comesAt_44 ?_
            refine x_callV (rest := []) ho d_MO_comesAt_45 yv_MO_word g_865 g_32 g_864 (c_MO_word M.2.1 D m kp fl fo di ty az v (p + k) (by omega)) rfl rfl ⟨Nat.le_of_ble_eq_true rfl, Nat.le_of_ble_eq_true rfl⟩ ⟨Nat.le_of_ble_eq_true rfl, Nat.le_of_ble_eq_true rfl⟩ rfl rfl (Nat.le_of_ble_eq_true rfl) t_o rfl rfl ⟨t_o, t_n⟩ fr_none' (x_rd (fun v_4 hv_4 => ?_))
            obtain ⟨rfl, gb_6⟩ := hv_4
            show X _ _ _ _ _ _ _ _ _ [zV (gA v.2.1 (p + k))] _
            refine x_aload_n ho 2 d_MO_comesAt_48 rfl ?_
            refine x_get 0 ho d_MO_comesAt_49 cl_MO (by decide) g_757 t_o rfl ?_
            refine x_sipush (z := 338) ho d_MO_comesAt_52 (by decide) ?_
            refine x_iload_n ho 0 d_MO_comesAt_55 rfl ?_
            refine x_iadd ho d_MO_comesAt_56 ?_
            refine x_iald ho d_MO_comesAt_57 n_a (by omega) (by omega) (by omega) ?_
            refine x_eqI (b := gA v.2.2 k) (by exact n_r.2.2.2 k (by omega) (by omega)) ?_
            refine x_icmp_ne (tgt := 65) ho d_MO_comesAt_58 (by decide) (by omega) (by omega) (fun c_58 => ?_) (fun c_58 => ?_)
            ·
              refine x_iconst ho d_MO_comesAt_65 ?_
              refine x_istore_n (L' := [(2, zV 0), (3, zV k), (0, .ref m), (1, zV p)]) ho d_MO_comesAt_66 (by decide) rfl ?_
              refine x_iinc (L' := [(3, zV (k + 1)), (2, zV 0), (0, .ref m), (1, zV p)]) ho 1 d_MO_comesAt_67 rfl rfl (by decide) rfl ?_
              refine x_goto (tgt := 25) ho d_MO_comesAt_70 (by decide) ?_
              exact ih_25 (k + 1) 0 (by omega) (by omega) (by exact Or.inr ⟨rfl, fun q => c_58 (q.2.2 k (by omega) (by omega))⟩) (by omega)
            ·
              refine x_iconst ho d_MO_comesAt_61 ?_
              refine x_goto (tgt := 66) ho d_MO_comesAt_62 (by decide) ?_
              refine x_istore_n (L' := [(2, zV 1), (3, zV k), (0, .ref m), (1, zV p)]) ho d_MO_comesAt_66 (by decide) rfl ?_
              refine x_iinc (L' := [(3, zV (k + 1)), (2, zV 1), (0, .ref m), (1, zV p)]) ho 1 d_MO_comesAt_67 rfl rfl (by decide) rfl ?_
              refine x_goto (tgt := 25) ho d_MO_comesAt_70 (by decide) ?_
              exact ih_25 (k + 1) 1 (by omega) (by omega) (by exact Or.inl ⟨rfl, h_2.1, fun j a b => by rcases (show j < k ∨ j = k by omega) with z | z; exact h_2.2 j a z; rw [z]; exact c_58⟩) (by omega)
    exact loop_25 _ 0 0 (by omega) (by omega) (by exact Or.inr ⟨rfl, occ_len (by omega)⟩) (Nat.lt_succ_self _)
  ·
    refine x_iconst ho d_MO_comesAt_17 ?_
    refine x_goto (tgt := 22) ho d_MO_comesAt_18 (by decide) ?_
    refine x_istore_n (L' := [(2, zV 1), (0, .ref m), (1, zV p)]) ho d_MO_comesAt_22 (by decide) rfl ?_
    refine x_iconst ho d_MO_comesAt_23 ?_
    refine x_istore_n (L' := [(3, zV 0), (2, zV 1), (0, .ref m), (1, zV p)]) ho d_MO_comesAt_24 (by decide) rfl ?_
    have loop_25 : ∀ (kk : Nat) (k : Int) (s : Int) (k0 : 0 ≤ k ∧ k ≤ (v.2.2.length : Int)) (s1 : s = 0 ∨ s = 1) (hk : (s = 1 ∧ p + (v.2.2.length : Int) ≤ (v.2.1.length : Int) ∧ ∀ j : Int, 0 ≤ j → j < k → gA v.2.1 (p + j) = gA v.2.2 j) ∨ (s = 0 ∧ ¬ occ v.2.1 v.2.2 p)), ((v.2.2.length : Int) - k).toNat < kk → X M ({ frames := 1, cells := 0, slots := 0, locals := 21 } : Room) 4 nA 0 0 (Qof M nA (q_MO_comesAt D m kp fl fo di ty az v p) 0 0) 25 [(3, zV k), (2, zV s), (0, .ref m), (1, zV p)] [] H := by
      intro kk
      induction kk with
      | zero => intro k s k0 s1 hk hk; exact absurd hk (Nat.not_lt_zero _)
      | succ kk ih_25 =>
        intro k s k0 s1 hk hk_25
        refine x_iload_n ho 0 d_MO_comesAt_25 rfl ?_
        refine x_aload_n ho 2 d_MO_comesAt_26 rfl ?_
        refine x_get 0 ho d_MO_comesAt_27 cl_MO (by decide) g_757 t_o rfl ?_
        refine x_sipush (z := 337) ho d_MO_comesAt_30 (by decide) ?_
        refine x_iald ho d_MO_comesAt_33 n_a (by omega) (by omega) (by omega) ?_
        refine x_eqI (b := (v.2.2.length : Int)) (by exact n_r.2.2.1) ?_
        refine x_icmp_ge (tgt := 73) ho d_MO_comesAt_34 (by decide) (by omega) (by omega) (fun c_34 => ?_) (fun c_34 => ?_)
        ·
          refine x_iload_n ho 1 d_MO_comesAt_73 rfl ?_
          refine x_eqI (b := bI (occ v.2.1 v.2.2 p)) (by rcases hk with h | h; rw [bI_t (P := occ v.2.1 v.2.2 p) ⟨hp.1, h.2.1, fun j a b => h.2.2 j a (by omega)⟩]; exact h.1; rw [bI_f h.2]; exact h.1) ?_
          refine x_zret ho hr (bI_01 _) d_MO_comesAt_74 ?_
          exact rfl
        ·
          refine x_iload_n ho 1 d_MO_comesAt_37 rfl ?_
          refine x_if_eq (tgt := 73) ho d_MO_comesAt_38 (by decide) (by omega) (fun c_38 => ?_) (fun c_38 => ?_)
          ·
            refine x_iload_n ho 1 d_MO_comesAt_73 rfl ?_
            refine x_eqI (b := bI (occ v.2.1 v.2.2 p)) (by rcases hk with h | h; omega; rw [bI_f h.2]; exact h.1) ?_
            refine x_zret ho hr (bI_01 _) d_MO_comesAt_74 ?_
            exact rfl
          ·
            have h_1 : s = 1 := by omega
            have h_2 : p + (v.2.2.length : Int) ≤ (v.2.1.length : Int) ∧ ∀ j : Int, 0 ≤ j → j < k → gA v.2.1 (p + j) = gA v.2.2 j := by rcases hk with h | h; exact h.2; omega
            have h_4 := gA_r n_3.2 k
            refine x_aload_n ho 2 d_MO_comesAt_41 rfl ?_
            refine x_iload_n ho 3 d_MO_comesAt_42 rfl ?_
            refine x_iload_n ho 0 d_MO_comesAt_43 rfl ?_
            refine x_iadd ho d_MO_comesAt_44 ?_
            refine x_callV (rest := []) ho d_MO_comesAt_45 yv_MO_word g_865 g_32 g_864 (c_MO_word M.2.1 D m kp fl fo di ty az v (p + k) (by omega)) rfl rfl ⟨Nat.le_of_ble_eq_true rfl, Nat.le_of_ble_eq_true rfl⟩ ⟨Nat.le_of_ble_eq_true rfl, Nat.le_of_ble_eq_true rfl⟩ rfl rfl (Nat.le_of_ble_eq_true rfl) t_o rfl rfl ⟨t_o, t_n⟩ fr_none' (x_rd (fun v_7 hv_7 => ?_))
            obtain ⟨rfl, gb_9⟩ := hv_7
            show X _ _ _ _ _ _ _ _ _ [zV (gA v.2.1 (p + k))] _
            refine x_aload_n ho 2 d_MO_comesAt_48 rfl ?_
            refine x_get 0 ho d_MO_comesAt_49 cl_MO (by decide) g_757 t_o rfl ?_
            refine x_sipush (z := 338) ho d_MO_comesAt_52 (by decide) ?_
            refine x_iload_n ho 0 d_MO_comesAt_55 rfl ?_
            refine x_iadd ho d_MO_comesAt_56 ?_
            refine x_iald ho d_MO_comesAt_57 n_a (by omega) (by omega) (by omega) ?_
            refine x_eqI (b := gA v.2.2 k) (by exact n_r.2.2.2 k (by omega) (by omega)) ?_
            refine x_icmp_ne (tgt := 65) ho d_MO_comesAt_58 (by decide) (by omega) (by omega) (fun c_58 => ?_) (fun c_58 => ?_)
            ·
              refine x_iconst ho d_MO_comesAt_65 ?_
              refine x_istore_n (L' := [(2, zV 0), (3, zV k), (0, .ref m), (1, zV p)]) ho d_MO_comesAt_66 (by decide) rfl ?_
              refine x_iinc (L' := [(3, zV (k + 1)), (2, zV 0), (0, .ref m), (1, zV p)]) ho 1 d_MO_comesAt_67 rfl rfl (by decide) rfl ?_
              refine x_goto (tgt := 25) ho d_MO_comesAt_70 (by decide) ?_
              exact ih_25 (k + 1) 0 (by omega) (by omega) (by exact Or.inr ⟨rfl, fun q => c_58 (q.2.2 k (by omega) (by omega))⟩) (by omega)
            ·
              refine x_iconst ho d_MO_comesAt_61 ?_
              refine x_goto (tgt := 66) ho d_MO_comesAt_62 (by decide) ?_
              refine x_istore_n (L' := [(2, zV 1), (3, zV k), (0, .ref m), (1, zV p)]) ho d_MO_comesAt_66 (by decide) rfl ?_
              refine x_iinc (L' := [(3, zV (k + 1)), (2, zV 1), (0, .ref m), (1, zV p)]) ho 1 d_MO_comesAt_67 rfl rfl (by decide) rfl ?_
              refine x_goto (tgt := 25) ho d_MO_comesAt_70 (by decide) ?_
              exact ih_25 (k + 1) 1 (by omega) (by omega) (by exact Or.inl ⟨rfl, h_2.1, fun j a b => by rcases (show j < k ∨ j = k by omega) with z | z; exact h_2.2 j a z; rw [z]; exact c_58⟩) (by omega)
    exact loop_25 _ 0 1 (by omega) (by omega) (by exact Or.inl ⟨rfl, by omega, fun j a b => by omega⟩) (Nat.lt_succ_self _)
def q_MO_gap (D : GG) (m : Nat) (kp : Int) (fl : Int) (fo : Int) (di : Int) (ty : Int) (az : Int) (p : Int → Int) (os : List Int) (k : Int) : Option Value → Heap → Prop := fun v0 H => v0 = some (zV (gap os k)) ∧ (-300 ≤ gap os k ∧ gap os k ≤ 300 ∧ gap os k = gA os (k + 1) - gA os k)
theorem yv_MO_gap : Yv y_MO_gap b_MO_gap 2 (Option.some FieldType.int) 1 := ⟨g_906, g_65, by decide, by decide +kernel⟩
set_option maxHeartbeats 4000000 in
set_option maxRecDepth 100000 in
theorem c_MO_gap (l0 : Launch) (D : GG) (m : Nat) (kp : Int) (fl : Int) (fo : Int) (di : Int) (ty : Int) (az : Int) (p : Int → Int) (os : List Int) (k : Int) (hp : ∀ j : Int, 0 ≤ j → j < (os.length : Int) → p j = gA os j) (hos : ∀ j : Int, 0 ≤ j → j < (os.length : Int) → 0 ≤ gA os j ∧ gA os j < 300) (hk : 0 ≤ k ∧ k + 1 < (os.length : Int) ∧ (os.length : Int) ≤ 300) : Ct l0 D y_MO_gap b_MO_gap 2 (Option.some FieldType.int) ({ frames := 0, cells := 0, slots := 0, locals := 0 } : Room) [.ref m, zV k] (fun H => At D H m (oO 11 [.ref (m + 1), .ref (m + 2), zV kp, .ref (m + 3), zV fl, .ref (m + 4), .ref (m + 5), .ref (m + 6), zV fo, .ref (m + 7), zV di, zV ty, .ref (m + 8), zV az, .ref (m + 9), .ref (m + 10), .ref (m + 11)]) ∧ At D H (m + 6) (oI D 300 p)) nA 0 0 (q_MO_gap D m kp fl fo di ty az p os k) := by
  refine Ct.of (L := [(0, .ref m), (1, zV k)]) (by decide) (Nat.le_of_ble_eq_true rfl) rfl (fun M H ho hr hnm hH hpre => ?_)
  obtain ⟨t_o, t_p⟩ := hpre
  refine x_aload_n ho 0 d_MO_gap_0 rfl ?_
  refine x_get 7 ho d_MO_gap_1 cl_MO (by decide) g_764 t_o rfl ?_
  refine x_iload_n ho 1 d_MO_gap_4 rfl ?_
  refine x_iconst ho d_MO_gap_5 ?_
  refine x_iadd ho d_MO_gap_6 ?_
  refine x_iald ho d_MO_gap_7 t_p (by omega) (by omega) (by omega) ?_
  refine x_eqI (b := gA os (k + 1)) (by exact hp _ (by omega) (by omega)) ?_
  refine x_aload_n ho 0 d_MO_gap_8 rfl ?_
  refine x_get 7 ho d_MO_gap_9 cl_MO (by decide) g_764 t_o rfl ?_
  refine x_iload_n ho 1 d_MO_gap_12 rfl ?_
  refine x_iald ho d_MO_gap_13 t_p (by omega) (by omega) (by omega) ?_
  refine x_eqI (b := gA os k) (by exact hp _ (by omega) (by omega)) ?_
  refine x_isub ho d_MO_gap_14 ?_
  refine x_iret ho hr d_MO_gap_15 ?_
  exact ⟨rI (by rfl), (by have h1 := hos k (by omega) (by omega); have h2 := hos (k + 1) (by omega) (by omega); unfold gap; omega)⟩
def q_MO_areSame (D : GG) (m : Nat) (kp : Int) (fl : Int) (fo : Int) (di : Int) (ty : Int) (az : Int) (v : SV) (p : Int → Int) (os : List Int) (k : Int) (i : Int) : Option Value → Heap → Prop := fun v0 H => v0 = some (zV (bI (sameR v.2.1 os k i)))
theorem yv_MO_areSame : Yv y_MO_areSame b_MO_areSame 5 (Option.some FieldType.boolean) 2 := ⟨g_903, g_65, by decide, by decide +kernel⟩
set_option maxHeartbeats 4000000 in
set_option maxRecDepth 100000 in
theorem c_MO_areSame (l0 : Launch) (D : GG) (m : Nat) (kp : Int) (fl : Int) (fo : Int) (di : Int) (ty : Int) (az : Int) (v : SV) (p : Int → Int) (os : List Int) (k : Int) (i : Int) (hp : ∀ j : Int, 0 ≤ j → j < (os.length : Int) → p j = gA os j) (hos : ∀ j : Int, 0 ≤ j → j < (os.length : Int) → 0 ≤ gA os j ∧ gA os j < (v.2.1.length : Int)) (hk : 0 ≤ k ∧ k + 1 < (os.length : Int) ∧ (os.length : Int) ≤ 300) (hi : 0 ≤ i ∧ i + 1 < (os.length : Int)) : Ct l0 D y_MO_areSame b_MO_areSame 5 (Option.some FieldType.boolean) ({ frames := 1, cells := 0, slots := 0, locals := 21 } : Room) [.ref m, zV k, zV i] (fun H => At D H m (oO 11 [.ref (m + 1), .ref (m + 2), zV kp, .ref (m + 3), zV fl, .ref (m + 4), .ref (m + 5), .ref (m + 6), zV fo, .ref (m + 7), zV di, zV ty, .ref (m + 8), zV az, .ref (m + 9), .ref (m + 10), .ref (m + 11)]) ∧ isN D H (m + 1) v ∧ At D H (m + 6) (oI D 300 p)) nA 0 0 (q_MO_areSame D m kp fl fo di ty az v p os k i) := by
  refine Ct.of (L := [(0, .ref m), (1, zV k), (2, zV i)]) (by decide) (Nat.le_of_ble_eq_true rfl) rfl (fun M H ho hr hnm hH hpre => ?_)
  obtain ⟨t_o, t_n, t_p⟩ := hpre
  obtain ⟨n_f, n_a, n_r, n_o⟩ := id t_n
  have n_1 := n_o.1
  have n_2 := n_o.2.1
  have n_3 := n_o.2.2
  refine x_aload_n ho 0 d_MO_areSame_0 rfl ?_
  have hok := hos k (by omega) (by omega)
  have hok1 := hos (k + 1) (by omega) (by omega)
  have hoi := hos i (by omega) (by omega)
  have hoi1 := hos (i + 1) (by omega) (by omega)
  have hgk : gap os k = gA os (k + 1) - gA os k := rfl
  have hgi : gap os i = gA os (i + 1) - gA os i := rfl
  refine x_iload_n ho 1 d_MO_areSame_1 rfl ?_
  refine x_callV (rest := []) ho d_MO_areSame_2 yv_MO_gap g_905 g_40 g_904 (c_MO_gap M.2.1 D m kp fl fo di ty az p os k (by exact hp) (by exact fun j a b => by have := hos j a b; omega) (by omega)) rfl rfl ⟨Nat.le_of_ble_eq_true rfl, Nat.le_of_ble_eq_true rfl⟩ ⟨Nat.le_of_ble_eq_true rfl, Nat.le_of_ble_eq_true rfl⟩ rfl rfl (Nat.le_of_ble_eq_true rfl) t_o rfl rfl ⟨t_o, t_p⟩ fr_none' (x_rd (fun v_1 hv_1 => ?_))
  obtain ⟨rfl, gb_3⟩ := hv_1
  show X _ _ _ _ _ _ _ _ _ [zV (gap os k)] _
  refine x_aload_n ho 0 d_MO_areSame_5 rfl ?_
  refine x_iload_n ho 2 d_MO_areSame_6 rfl ?_
  refine x_callV (rest := [zV (gap os k)]) ho d_MO_areSame_7 yv_MO_gap g_905 g_40 g_904 (c_MO_gap M.2.1 D m kp fl fo di ty az p os i (by exact hp) (by exact fun j a b => by have := hos j a b; omega) (by omega)) rfl rfl ⟨Nat.le_of_ble_eq_true rfl, Nat.le_of_ble_eq_true rfl⟩ ⟨Nat.le_of_ble_eq_true rfl, Nat.le_of_ble_eq_true rfl⟩ rfl rfl (Nat.le_of_ble_eq_true rfl) t_o rfl rfl ⟨t_o, t_p⟩ fr_none' (x_rd (fun v_4 hv_4 => ?_))
  obtain ⟨rfl, gb_6⟩ := hv_4
  show X _ _ _ _ _ _ _ _ _ [zV (gap os i), zV (gap os k)] _
  refine x_icmp_ne (tgt := 17) ho d_MO_areSame_10 (by decide) (by omega) (by omega) (fun c_10 => ?_) (fun c_10 => ?_)
  ·
    refine x_iconst ho d_MO_areSame_17 ?_
    refine x_istore_n (L' := [(3, zV 0), (0, .ref m), (1, zV k), (2, zV i)]) ho d_MO_areSame_18 (by decide) rfl ?_
    refine x_iconst ho d_MO_areSame_19 ?_
    refine x_istore (L' := [(4, zV 0), (3, zV 0), (0, .ref m), (1, zV k), (2, zV i)]) ho d_MO_areSame_20 (by decide) rfl ?_
    have loop_22 : ∀ (kk : Nat) (x : Int) (s : Int) (x0 : 0 ≤ x ∧ (x ≤ gap os k ∨ x = 0)) (s1 : s = 0 ∨ s = 1) (hx : (s = 1 ∧ gap os k = gap os i ∧ ∀ y : Int, 0 ≤ y → y < x → gA v.2.1 (gA os k + y) = gA v.2.1 (gA os i + y)) ∨ (s = 0 ∧ ¬ sameR v.2.1 os k i)), (gap os k - x).toNat < kk → X M ({ frames := 1, cells := 0, slots := 0, locals := 21 } : Room) 5 nA 0 0 (Qof M nA (q_MO_areSame D m kp fl fo di ty az v p os k i) 0 0) 22 [(4, zV x), (3, zV s), (0, .ref m), (1, zV k), (2, zV i)] [] H := by
      intro kk
      induction kk with
      | zero => intro x s x0 s1 hx hk; exact absurd hk (Nat.not_lt_zero _)
      | succ kk ih_22 =>
        intro x s x0 s1 hx hk_22
        refine x_iload ho 0 d_MO_areSame_22 rfl ?_
        refine x_aload_n ho 2 d_MO_areSame_24 rfl ?_
        refine x_iload_n ho 3 d_MO_areSame_25 rfl ?_
        refine x_callV (rest := [zV x]) ho d_MO_areSame_26 yv_MO_gap g_905 g_40 g_904 (c_MO_gap M.2.1 D m kp fl fo di ty az p os k (by exact hp) (by exact fun j a b => by have := hos j a b; omega) (by omega)) rfl rfl ⟨Nat.le_of_ble_eq_true rfl, Nat.le_of_ble_eq_true rfl⟩ ⟨Nat.le_of_ble_eq_true rfl, Nat.le_of_ble_eq_true rfl⟩ rfl rfl (Nat.le_of_ble_eq_true rfl) t_o rfl rfl ⟨t_o, t_p⟩ fr_none' (x_rd (fun v_7 hv_7 => ?_))
        obtain ⟨rfl, gb_9⟩ := hv_7
        show X _ _ _ _ _ _ _ _ _ [zV (gap os k), zV x] _
        refine x_icmp_ge (tgt := 77) ho d_MO_areSame_29 (by decide) (by omega) (by omega) (fun c_29 => ?_) (fun c_29 => ?_)
        ·
          refine x_iload_n ho 1 d_MO_areSame_77 rfl ?_
          refine x_eqI (b := bI (sameR v.2.1 os k i)) (by rcases hx with h | h; rw [bI_t (P := sameR v.2.1 os k i) ⟨h.2.1, fun j a b => h.2.2 j a (by omega)⟩]; exact h.1; rw [bI_f h.2]; exact h.1) ?_
          refine x_zret ho hr (bI_01 _) d_MO_areSame_78 ?_
          exact rfl
        ·
          refine x_iload_n ho 1 d_MO_areSame_32 rfl ?_
          refine x_if_eq (tgt := 77) ho d_MO_areSame_33 (by decide) (by omega) (fun c_33 => ?_) (fun c_33 => ?_)
          ·
            refine x_iload_n ho 1 d_MO_areSame_77 rfl ?_
            refine x_eqI (b := bI (sameR v.2.1 os k i)) (by rcases hx with h | h; omega; rw [bI_f h.2]; exact h.1) ?_
            refine x_zret ho hr (bI_01 _) d_MO_areSame_78 ?_
            exact rfl
          ·
            have h_1 : s = 1 := by omega
            have h_2 : gap os k = gap os i ∧ ∀ y : Int, 0 ≤ y → y < x → gA v.2.1 (gA os k + y) = gA v.2.1 (gA os i + y) := by rcases hx with h | h; exact h.2; omega
            refine x_aload_n ho 2 d_MO_areSame_36 rfl ?_
            refine x_aload_n ho 2 d_MO_areSame_37 rfl ?_
            refine x_get 7 ho d_MO_areSame_38 cl_MO (by decide) g_764 t_o rfl ?_
            refine x_iload_n ho 3 d_MO_areSame_41 rfl ?_
            refine x_iald ho d_MO_areSame_42 t_p (by omega) (by omega) (by omega) ?_
            refine x_eqI (b := gA os k) (by exact hp _ (by omega) (by omega)) ?_
            refine x_iload ho 0 d_MO_areSame_43 rfl ?_
            refine x_iadd ho d_MO_areSame_45 ?_
            refine x_callV (rest := []) ho d_MO_areSame_46 yv_MO_word g_865 g_32 g_864 (c_MO_word M.2.1 D m kp fl fo di ty az v ((gA os k) + x) (by omega)) rfl rfl ⟨Nat.le_of_ble_eq_true rfl, Nat.le_of_ble_eq_true rfl⟩ ⟨Nat.le_of_ble_eq_true rfl, Nat.le_of_ble_eq_true rfl⟩ rfl rfl (Nat.le_of_ble_eq_true rfl) t_o rfl rfl ⟨t_o, t_n⟩ fr_none' (x_rd (fun v_10 hv_10 => ?_))
            obtain ⟨rfl, gb_12⟩ := hv_10
            show X _ _ _ _ _ _ _ _ _ [zV (gA v.2.1 ((gA os k) + x))] _
            refine x_aload_n ho 2 d_MO_areSame_49 rfl ?_
            refine x_aload_n ho 2 d_MO_areSame_50 rfl ?_
            refine x_get 7 ho d_MO_areSame_51 cl_MO (by decide) g_764 t_o rfl ?_
            refine x_iload_n ho 4 d_MO_areSame_54 rfl ?_
            refine x_iald ho d_MO_areSame_55 t_p (by omega) (by omega) (by omega) ?_
            refine x_eqI (b := gA os i) (by exact hp _ (by omega) (by omega)) ?_
            refine x_iload ho 0 d_MO_areSame_56 rfl ?_
            refine x_iadd ho d_MO_areSame_58 ?_
            refine x_callV (rest := [zV (gA v.2.1 ((gA os k) + x))]) ho d_MO_areSame_59 yv_MO_word g_865 g_32 g_864 (c_MO_word M.2.1 D m kp fl fo di ty az v ((gA os i) + x) (by omega)) rfl rfl ⟨Nat.le_of_ble_eq_true rfl, Nat.le_of_ble_eq_true rfl⟩ ⟨Nat.le_of_ble_eq_true rfl, Nat.le_of_ble_eq_true rfl⟩ rfl rfl (Nat.le_of_ble_eq_true rfl) t_o rfl rfl ⟨t_o, t_n⟩ fr_none' (x_rd (fun v_13 hv_13 => ?_))
            obtain ⟨rfl, gb_15⟩ := hv_13
            show X _ _ _ _ _ _ _ _ _ [zV (gA v.2.1 ((gA os i) + x)), zV (gA v.2.1 ((gA os k) + x))] _
            refine x_icmp_ne (tgt := 69) ho d_MO_areSame_62 (by decide) (by omega) (by omega) (fun c_62 => ?_) (fun c_62 => ?_)
            ·
              refine x_iconst ho d_MO_areSame_69 ?_
              refine x_istore_n (L' := [(3, zV 0), (4, zV x), (0, .ref m), (1, zV k), (2, zV i)]) ho d_MO_areSame_70 (by decide) rfl ?_
              refine x_iinc (L' := [(4, zV (x + 1)), (3, zV 0), (0, .ref m), (1, zV k), (2, zV i)]) ho 1 d_MO_areSame_71 rfl rfl (by decide) rfl ?_
              refine x_goto (tgt := 22) ho d_MO_areSame_74 (by decide) ?_
              exact ih_22 (x + 1) 0 (by omega) (by omega) (by exact Or.inr ⟨rfl, fun q => c_62 (q.2 x (by omega) (by omega))⟩) (by omega)
            ·
              refine x_iconst ho d_MO_areSame_65 ?_
              refine x_goto (tgt := 70) ho d_MO_areSame_66 (by decide) ?_
              refine x_istore_n (L' := [(3, zV 1), (4, zV x), (0, .ref m), (1, zV k), (2, zV i)]) ho d_MO_areSame_70 (by decide) rfl ?_
              refine x_iinc (L' := [(4, zV (x + 1)), (3, zV 1), (0, .ref m), (1, zV k), (2, zV i)]) ho 1 d_MO_areSame_71 rfl rfl (by decide) rfl ?_
              refine x_goto (tgt := 22) ho d_MO_areSame_74 (by decide) ?_
              exact ih_22 (x + 1) 1 (by omega) (by omega) (by exact Or.inl ⟨rfl, h_2.1, fun j a b => by rcases (show j < x ∨ j = x by omega) with z | z; exact h_2.2 j a z; rw [z]; exact c_62⟩) (by omega)
    exact loop_22 _ 0 0 (by omega) (by omega) (by exact Or.inr ⟨rfl, fun q => c_10 q.1⟩) (Nat.lt_succ_self _)
  ·
    refine x_iconst ho d_MO_areSame_13 ?_
    refine x_goto (tgt := 18) ho d_MO_areSame_14 (by decide) ?_
    refine x_istore_n (L' := [(3, zV 1), (0, .ref m), (1, zV k), (2, zV i)]) ho d_MO_areSame_18 (by decide) rfl ?_
    refine x_iconst ho d_MO_areSame_19 ?_
    refine x_istore (L' := [(4, zV 0), (3, zV 1), (0, .ref m), (1, zV k), (2, zV i)]) ho d_MO_areSame_20 (by decide) rfl ?_
    have loop_22 : ∀ (kk : Nat) (x : Int) (s : Int) (x0 : 0 ≤ x ∧ (x ≤ gap os k ∨ x = 0)) (s1 : s = 0 ∨ s = 1) (hx : (s = 1 ∧ gap os k = gap os i ∧ ∀ y : Int, 0 ≤ y → y < x → gA v.2.1 (gA os k + y) = gA v.2.1 (gA os i + y)) ∨ (s = 0 ∧ ¬ sameR v.2.1 os k i)), (gap os k - x).toNat < kk → X M ({ frames := 1, cells := 0, slots := 0, locals := 21 } : Room) 5 nA 0 0 (Qof M nA (q_MO_areSame D m kp fl fo di ty az v p os k i) 0 0) 22 [(4, zV x), (3, zV s), (0, .ref m), (1, zV k), (2, zV i)] [] H := by
      intro kk
      induction kk with
      | zero => intro x s x0 s1 hx hk; exact absurd hk (Nat.not_lt_zero _)
      | succ kk ih_22 =>
        intro x s x0 s1 hx hk_22
        refine x_iload ho 0 d_MO_areSame_22 rfl ?_
        refine x_aload_n ho 2 d_MO_areSame_24 rfl ?_
        refine x_iload_n ho 3 d_MO_areSame_25 rfl ?_
        refine x_callV (rest := [zV x]) ho d_MO_areSame_26 yv_MO_gap g_905 g_40 g_904 (c_MO_gap M.2.1 D m kp fl fo di ty az p os k (by exact hp) (by exact fun j a b => by have := hos j a b; omega) (by omega)) rfl rfl ⟨Nat.le_of_ble_eq_true rfl, Nat.le_of_ble_eq_true rfl⟩ ⟨Nat.le_of_ble_eq_true rfl, Nat.le_of_ble_eq_true rfl⟩ rfl rfl (Nat.le_of_ble_eq_true rfl) t_o rfl rfl ⟨t_o, t_p⟩ fr_none' (x_rd (fun v_16 hv_16 => ?_))
        obtain ⟨rfl, gb_18⟩ := hv_16
        show X _ _ _ _ _ _ _ _ _ [zV (gap os k), zV x] _
        refine x_icmp_ge (tgt := 77) ho d_MO_areSame_29 (by decide) (by omega) (by omega) (fun c_29 => ?_) (fun c_29 => ?_)
        ·
          refine x_iload_n ho 1 d_MO_areSame_77 rfl ?_
          refine x_eqI (b := bI (sameR v.2.1 os k i)) (by rcases hx with h | h; rw [bI_t (P := sameR v.2.1 os k i) ⟨h.2.1, fun j a b => h.2.2 j a (by omega)⟩]; exact h.1; rw [bI_f h.2]; exact h.1) ?_
          refine x_zret ho hr (bI_01 _) d_MO_areSame_78 ?_
          exact rfl
        ·
          refine x_iload_n ho 1 d_MO_areSame_32 rfl ?_
          refine x_if_eq (tgt := 77) ho d_MO_areSame_33 (by decide) (by omega) (fun c_33 => ?_) (fun c_33 => ?_)
          ·
            refine x_iload_n ho 1 d_MO_areSame_77 rfl ?_
            refine x_eqI (b := bI (sameR v.2.1 os k i)) (by rcases hx with h | h; omega; rw [bI_f h.2]; exact h.1) ?_
            refine x_zret ho hr (bI_01 _) d_MO_areSame_78 ?_
            exact rfl
          ·
            have h_1 : s = 1 := by omega
            have h_2 : gap os k = gap os i ∧ ∀ y : Int, 0 ≤ y → y < x → gA v.2.1 (gA os k + y) = gA v.2.1 (gA os i + y) := by rcases hx with h | h; exact h.2; omega
            refine x_aload_n ho 2 d_MO_areSame_36 rfl ?_
            refine x_aload_n ho 2 d_MO_areSame_37 rfl ?_
            refine x_get 7 ho d_MO_areSame_38 cl_MO (by decide) g_764 t_o rfl ?_
            refine x_iload_n ho 3 d_MO_areSame_41 rfl ?_
            refine x_iald ho d_MO_areSame_42 t_p (by omega) (by omega) (by omega) ?_
            refine x_eqI (b := gA os k) (by exact hp _ (by omega) (by omega)) ?_
            refine x_iload ho 0 d_MO_areSame_43 rfl ?_
            refine x_iadd ho d_MO_areSame_45 ?_
            refine x_callV (rest := []) ho d_MO_areSame_46 yv_MO_word g_865 g_32 g_864 (c_MO_word M.2.1 D m kp fl fo di ty az v ((gA os k) + x) (by omega)) rfl rfl ⟨Nat.le_of_ble_eq_true rfl, Nat.le_of_ble_eq_true rfl⟩ ⟨Nat.le_of_ble_eq_true rfl, Nat.le_of_ble_eq_true rfl⟩ rfl rfl (Nat.le_of_ble_eq_true rfl) t_o rfl rfl ⟨t_o, t_n⟩ fr_none' (x_rd (fun v_19 hv_19 => ?_))
            obtain ⟨rfl, gb_21⟩ := hv_19
            show X _ _ _ _ _ _ _ _ _ [zV (gA v.2.1 ((gA os k) + x))] _
            refine x_aload_n ho 2 d_MO_areSame_49 rfl ?_
            refine x_aload_n ho 2 d_MO_areSame_50 rfl ?_
            refine x_get 7 ho d_MO_areSame_51 cl_MO (by decide) g_764 t_o rfl ?_
            refine x_iload_n ho 4 d_MO_areSame_54 rfl ?_
            refine x_iald ho d_MO_areSame_55 t_p (by omega) (by omega) (by omega) ?_
            refine x_eqI (b := gA os i) (by exact hp _ (by omega) (by omega)) ?_
            refine x_iload ho 0 d_MO_areSame_56 rfl ?_
            refine x_iadd ho d_MO_areSame_58 ?_
            refine x_callV (rest := [zV (gA v.2.1 ((gA os k) + x))]) ho d_MO_areSame_59 yv_MO_word g_865 g_32 g_864 (c_MO_word M.2.1 D m kp fl fo di ty az v ((gA os i) + x) (by omega)) rfl rfl ⟨Nat.le_of_ble_eq_true rfl, Nat.le_of_ble_eq_true rfl⟩ ⟨Nat.le_of_ble_eq_true rfl, Nat.le_of_ble_eq_true rfl⟩ rfl rfl (Nat.le_of_ble_eq_true rfl) t_o rfl rfl ⟨t_o, t_n⟩ fr_none' (x_rd (fun v_22 hv_22 => ?_))
            obtain ⟨rfl, gb_24⟩ := hv_22
            show X _ _ _ _ _ _ _ _ _ [zV (gA v.2.1 ((gA os i) + x)), zV (gA v.2.1 ((gA os k) + x))] _
            refine x_icmp_ne (tgt := 69) ho d_MO_areSame_62 (by decide) (by omega) (by omega) (fun c_62 => ?_) (fun c_62 => ?_)
            ·
              refine x_iconst ho d_MO_areSame_69 ?_
              refine x_istore_n (L' := [(3, zV 0), (4, zV x), (0, .ref m), (1, zV k), (2, zV i)]) ho d_MO_areSame_70 (by decide) rfl ?_
              refine x_iinc (L' := [(4, zV (x + 1)), (3, zV 0), (0, .ref m), (1, zV k), (2, zV i)]) ho 1 d_MO_areSame_71 rfl rfl (by decide) rfl ?_
              refine x_goto (tgt := 22) ho d_MO_areSame_74 (by decide) ?_
              exact ih_22 (x + 1) 0 (by omega) (by omega) (by exact Or.inr ⟨rfl, fun q => c_62 (q.2 x (by omega) (by omega))⟩) (by omega)
            ·
              refine x_iconst ho d_MO_areSame_65 ?_
              refine x_goto (tgt := 70) ho d_MO_areSame_66 (by decide) ?_
              refine x_istore_n (L' := [(3, zV 1), (4, zV x), (0, .ref m), (1, zV k), (2, zV i)]) ho d_MO_areSame_70 (by decide) rfl ?_
              refine x_iinc (L' := [(4, zV (x + 1)), (3, zV 1), (0, .ref m), (1, zV k), (2, zV i)]) ho 1 d_MO_areSame_71 rfl rfl (by decide) rfl ?_
              refine x_goto (tgt := 22) ho d_MO_areSame_74 (by decide) ?_
              exact ih_22 (x + 1) 1 (by omega) (by omega) (by exact Or.inl ⟨rfl, h_2.1, fun j a b => by rcases (show j < x ∨ j = x by omega) with z | z; exact h_2.2 j a z; rw [z]; exact c_62⟩) (by omega)
    exact loop_22 _ 0 1 (by omega) (by omega) (by exact Or.inl ⟨rfl, c_10, fun j a b => by omega⟩) (Nat.lt_succ_self _)
def q_MO_finds (D : GG) (m : Nat) (kp : Int) (fl : Int) (fo : Int) (di : Int) (ty : Int) (az : Int) (v : SV) (p : Int → Int) (u : Int → Int) : Option Value → Heap → Prop := fun v0 H => ∃ (p1 : Int → Int) (u1 : Int → Int), v0 = some (zV (((aos v.2.1 v.2.2).length : Int))) ∧ ((aos v.2.1 v.2.2).length : Int) ≤ (v.2.1.length : Int) ∧ (∀ j : Int, 0 ≤ j → j < ((aos v.2.1 v.2.2).length : Int) → p1 j = gA (aos v.2.1 v.2.2) j) ∧ (∀ j : Int, 0 ≤ j → j < rl (aos v.2.1 v.2.2) → u1 j = gA (roo v.2.1 (aos v.2.1 v.2.2)) j) ∧ At D H m (oO 11 [.ref (m + 1), .ref (m + 2), zV kp, .ref (m + 3), zV fl, .ref (m + 4), .ref (m + 5), .ref (m + 6), zV (((aos v.2.1 v.2.2).length : Int)), .ref (m + 7), zV (((fir v.2.1 (aos v.2.1 v.2.2)).length : Int)), zV ty, .ref (m + 8), zV az, .ref (m + 9), .ref (m + 10), .ref (m + 11)]) ∧ isN D H (m + 1) v ∧ At D H (m + 6) (oI D 300 p1) ∧ At D H (m + 7) (oI D 300 u1)
theorem yv_MO_finds : Yv y_MO_finds b_MO_finds 3 (Option.some FieldType.int) 0 := ⟨g_897, g_65, by decide, by decide +kernel⟩
set_option maxHeartbeats 4000000 in
set_option maxRecDepth 100000 in
theorem c_MO_finds (l0 : Launch) (D : GG) (m : Nat) (kp : Int) (fl : Int) (fo : Int) (di : Int) (ty : Int) (az : Int) (v : SV) (p : Int → Int) (u : Int → Int)  : Ct l0 D y_MO_finds b_MO_finds 3 (Option.some FieldType.int) ({ frames := 2, cells := 0, slots := 0, locals := 45 } : Room) [.ref m] (fun H => At D H m (oO 11 [.ref (m + 1), .ref (m + 2), zV kp, .ref (m + 3), zV fl, .ref (m + 4), .ref (m + 5), .ref (m + 6), zV fo, .ref (m + 7), zV di, zV ty, .ref (m + 8), zV az, .ref (m + 9), .ref (m + 10), .ref (m + 11)]) ∧ isN D H (m + 1) v ∧ At D H (m + 6) (oI D 300 p) ∧ At D H (m + 7) (oI D 300 u)) (fun z => (m ≤ z ∧ z < m + 1) ∨ (m + 6 ≤ z ∧ z < m + 8)) 0 0 (q_MO_finds D m kp fl fo di ty az v p u) := by
  refine Ct.of (L := [(0, .ref m)]) (by decide) (Nat.le_of_ble_eq_true rfl) rfl (fun M H ho hr hnm hH hpre => ?_)
  obtain ⟨t_o, t_n, t_p, t_u⟩ := hpre
  have n_o := t_n.ok
  have n_2 := n_o.2.1
  refine x_aload_n ho 0 d_MO_finds_0 rfl ?_
  refine x_iconst ho d_MO_finds_1 ?_
  refine x_put 8 ho d_MO_finds_2 cl_MO (by decide) g_765 t_o rfl rfl rfl (Nat.le_of_ble_eq_true rfl) (by first | exact Or.inl ⟨by omega, by omega⟩ | exact Or.inr ⟨by omega, by omega⟩) (fun H_1 p_2 z_3 q_4 => ?_)
  have k_5 := t_n.kept (q_4 _ (by omega))
  have k_6 := t_p.kept (q_4 _ (by omega))
  have k_7 := t_u.kept (q_4 _ (by omega))
  refine x_aload_n ho 0 d_MO_finds_5 rfl ?_
  refine x_iconst ho d_MO_finds_6 ?_
  refine x_put 10 ho d_MO_finds_7 cl_MO (by decide) g_767 p_2 rfl rfl rfl (Nat.le_of_ble_eq_true rfl) (by first | exact Or.inl ⟨by omega, by omega⟩ | exact Or.inr ⟨by omega, by omega⟩) (fun H_8 p_9 z_10 q_11 => ?_)
  have k_12 := k_5.kept (q_11 _ (by omega))
  have k_13 := k_6.kept (q_11 _ (by omega))
  have k_14 := k_7.kept (q_11 _ (by omega))
  refine x_iconst ho d_MO_finds_10 ?_
  refine x_istore_n (L' := [(1, zV 0), (0, .ref m)]) ho d_MO_finds_11 (by decide) rfl ?_
  have loop_12 : ∀ (kk : Nat) (q : Int) (PF : Int → Int) (H_15 : Heap) (l_o : At D H_15 m (oO 11 [.ref (m + 1), .ref (m + 2), zV kp, .ref (m + 3), zV fl, .ref (m + 4), .ref (m + 5), .ref (m + 6), zV (((ocN v.2.1 v.2.2 q.toNat).length : Int)), .ref (m + 7), zV 0, zV ty, .ref (m + 8), zV az, .ref (m + 9), .ref (m + 10), .ref (m + 11)])) (l_n : isN D H_15 (m + 1) v) (l_p : At D H_15 (m + 6) (oI D 300 PF)) (l_u : At D H_15 (m + 7) (oI D 300 u)) (q0 : 0 ≤ q ∧ q ≤ (v.2.1.length : Int)) (hp : ∀ j : Int, 0 ≤ j → j < ((ocN v.2.1 v.2.2 q.toNat).length : Int) → PF j = gA (ocN v.2.1 v.2.2 q.toNat) j), ((v.2.1.length : Int) - q).toNat < kk → X M ({ frames := 2, cells := 0, slots := 0, locals := 45 } : Room) 3 (fun z => (m ≤ z ∧ z < m + 1) ∨ (m + 6 ≤ z ∧ z < m + 8)) 0 0 (Qof M (fun z => (m ≤ z ∧ z < m + 1) ∨ (m + 6 ≤ z ∧ z < m + 8)) (q_MO_finds D m kp fl fo di ty az v p u) 0 0) 12 [(1, zV q), (0, .ref m)] [] H_15 := by
    intro kk
    induction kk with
    | zero => intro q PF H_15 l_o l_n l_p l_u q0 hp hk; exact absurd hk (Nat.not_lt_zero _)
    | succ kk ih_12 =>
      intro q PF H_15 l_o l_n l_p l_u q0 hp hk_12
      refine x_iload_n ho 0 d_MO_finds_12 rfl ?_
      have hol := ocN_len v.2.1 v.2.2 q.toNat
      refine x_aload_n ho 1 d_MO_finds_13 rfl ?_
      refine x_callV (rest := [zV q]) ho d_MO_finds_14 yv_MO_length g_862 g_31 g_861 (c_MO_length M.2.1 D m kp fl (((ocN v.2.1 v.2.2 q.toNat).length : Int)) 0 ty az v ) rfl rfl ⟨Nat.le_of_ble_eq_true rfl, Nat.le_of_ble_eq_true rfl⟩ ⟨Nat.le_of_ble_eq_true rfl, Nat.le_of_ble_eq_true rfl⟩ rfl rfl (Nat.le_of_ble_eq_true rfl) l_o rfl rfl ⟨l_o, l_n⟩ fr_none' (x_rd (fun v_16 hv_16 => ?_))
      obtain ⟨rfl, lb_18⟩ := hv_16
      show X _ _ _ _ _ _ _ _ _ [zV ((v.2.1.length : Int)), zV q] _
      refine x_icmp_ge (tgt := 54) ho d_MO_finds_17 (by decide) (by omega) (by omega) (fun c_17 => ?_) (fun c_17 => ?_)
      ·
        have eq : q.toNat = v.2.1.length := by omega
        rw [eq] at hp hol
        have hol2 : (aos v.2.1 v.2.2).length ≤ v.2.1.length := hol
        have hrl : rl (aos v.2.1 v.2.2) = if ((aos v.2.1 v.2.2).length : Int) - 1 < 0 then 0 else ((aos v.2.1 v.2.2).length : Int) - 1 := rfl
        refine x_iconst ho d_MO_finds_54 ?_
        refine x_istore_n (L' := [(1, zV 0), (0, .ref m)]) ho d_MO_finds_55 (by decide) rfl ?_
        have loop_56 : ∀ (kk : Nat) (k : Int) (U : Int → Int) (H_19 : Heap) (l_o : At D H_19 m (oO 11 [.ref (m + 1), .ref (m + 2), zV kp, .ref (m + 3), zV fl, .ref (m + 4), .ref (m + 5), .ref (m + 6), zV (((aos v.2.1 v.2.2).length : Int)), .ref (m + 7), zV (((nst v.2.1 (aos v.2.1 v.2.2) k.toNat).1.length : Int)), zV ty, .ref (m + 8), zV az, .ref (m + 9), .ref (m + 10), .ref (m + 11)])) (l_n : isN D H_19 (m + 1) v) (l_p : At D H_19 (m + 6) (oI D 300 PF)) (l_u : At D H_19 (m + 7) (oI D 300 U)) (k0 : 0 ≤ k ∧ k ≤ rl (aos v.2.1 v.2.2)) (hu : ∀ j : Int, 0 ≤ j → j < k → U j = gA (nst v.2.1 (aos v.2.1 v.2.2) k.toNat).2 j), (rl (aos v.2.1 v.2.2) - k).toNat < kk → X M ({ frames := 2, cells := 0, slots := 0, locals := 45 } : Room) 3 (fun z => (m ≤ z ∧ z < m + 1) ∨ (m + 6 ≤ z ∧ z < m + 8)) 0 0 (Qof M (fun z => (m ≤ z ∧ z < m + 1) ∨ (m + 6 ≤ z ∧ z < m + 8)) (q_MO_finds D m kp fl fo di ty az v p u) 0 0) 56 [(1, zV k), (0, .ref m)] [] H_19 := by
          intro kk
          induction kk with
          | zero => intro k U H_19 l_o l_n l_p l_u k0 hu hk; exact absurd hk (Nat.not_lt_zero _)
          | succ kk ih_56 =>
            intro k U H_19 l_o l_n l_p l_u k0 hu hk_56
            refine x_iload_n ho 0 d_MO_finds_56 rfl ?_
            have hnl := nst_len v.2.1 (aos v.2.1 v.2.2) k.toNat
            have hrl2 : (k < ((aos v.2.1 v.2.2).length : Int) - 1 → k + 1 ≤ rl (aos v.2.1 v.2.2)) ∧ (((aos v.2.1 v.2.2).length : Int) - 1 ≤ k → rl (aos v.2.1 v.2.2) ≤ k) ∧ rl (aos v.2.1 v.2.2) ≤ 300 := by rw [hrl]; split <;> omega
            refine x_aload_n ho 1 d_MO_finds_57 rfl ?_
            refine x_get 8 ho d_MO_finds_58 cl_MO (by decide) g_765 l_o rfl ?_
            refine x_iconst ho d_MO_finds_61 ?_
            refine x_isub ho d_MO_finds_62 ?_
            refine x_icmp_ge (tgt := 137) ho d_MO_finds_63 (by decide) (by omega) (by omega) (fun c_63 => ?_) (fun c_63 => ?_)
            ·
              have hkr : k = rl (aos v.2.1 v.2.2) := by omega
              refine x_aload_n ho 1 d_MO_finds_137 rfl ?_
              refine x_get 8 ho d_MO_finds_138 cl_MO (by decide) g_765 l_o rfl ?_
              refine x_iret ho hr d_MO_finds_141 ?_
              have q9 := l_o
              rw [hkr] at hu q9
              exact ⟨_, _, rfl, Int.ofNat_le.mpr hol2, hp, hu, q9, l_n, l_p, l_u⟩
            ·
              refine x_iconst ho d_MO_finds_66 ?_
              refine x_istore_n (L' := [(2, zV 0), (1, zV k), (0, .ref m)]) ho d_MO_finds_67 (by decide) rfl ?_
              have loop_68 : ∀ (kk : Nat) (i : Int) (i0 : 0 ≤ i ∧ i ≤ k) (hn : ∀ j : Int, 0 ≤ j → j < i → ¬ sameR v.2.1 (aos v.2.1 v.2.2) k j), (k - i).toNat < kk → X M ({ frames := 2, cells := 0, slots := 0, locals := 45 } : Room) 3 (fun z => (m ≤ z ∧ z < m + 1) ∨ (m + 6 ≤ z ∧ z < m + 8)) 0 0 (Qof M (fun z => (m ≤ z ∧ z < m + 1) ∨ (m + 6 ≤ z ∧ z < m + 8)) (q_MO_finds D m kp fl fo di ty az v p u) 0 0) 68 [(2, zV i), (1, zV k), (0, .ref m)] [] H_19 := by
                intro kk
                induction kk with
                | zero => intro i i0 hn hk; exact absurd hk (Nat.not_lt_zero _)
                | succ kk ih_68 =>
                  intro i i0 hn hk_68
                  refine x_iload_n ho 0 d_MO_finds_68 rfl ?_
                  refine x_iload_n ho 1 d_MO_finds_69 rfl ?_
                  refine x_icmp_ge (tgt := 88) ho d_MO_finds_70 (by decide) (by omega) (by omega) (fun c_70 => ?_) (fun c_70 => ?_)
                  ·
                    refine x_aload_n ho 2 d_MO_finds_88 rfl ?_
                    refine x_get 9 ho d_MO_finds_89 cl_MO (by decide) g_766 l_o rfl ?_
                    refine x_iload_n ho 1 d_MO_finds_92 rfl ?_
                    refine x_iload_n ho 0 d_MO_finds_93 rfl ?_
                    refine x_iload_n ho 1 d_MO_finds_94 rfl ?_
                    refine x_icmp_ge (tgt := 107) ho d_MO_finds_95 (by decide) (by omega) (by omega) (fun c_95 => ?_) (fun c_95 => ?_)
                    ·
                      refine x_aload_n ho 2 d_MO_finds_107 rfl ?_
                      refine x_get 10 ho d_MO_finds_108 cl_MO (by decide) g_767 l_o rfl ?_
                      refine x_iast ho d_MO_finds_111 l_u (by omega) (by omega) (by omega) (by first | exact Or.inl ⟨by omega, by omega⟩ | exact Or.inr ⟨by omega, by omega⟩) (fun H_20 p_21 z_22 q_23 => ?_)
                      have k_24 := l_o.kept (q_23 _ (by omega))
                      have k_25 := l_n.kept (q_23 _ (by omega))
                      have k_26 := l_p.kept (q_23 _ (by omega))
                      refine x_aload_n ho 2 d_MO_finds_112 rfl ?_
                      refine x_dup ho d_MO_finds_113 rfl ?_
                      refine x_get 10 ho d_MO_finds_114 cl_MO (by decide) g_767 k_24 rfl ?_
                      refine x_iload_n ho 0 d_MO_finds_117 rfl ?_
                      refine x_iload_n ho 1 d_MO_finds_118 rfl ?_
                      refine x_icmp_ge (tgt := 126) ho d_MO_finds_119 (by decide) (by omega) (by omega) (fun c_119 => ?_) (fun c_119 => ?_)
                      ·
                        refine x_iconst ho d_MO_finds_126 ?_
                        refine x_iadd ho d_MO_finds_127 ?_
                        refine x_put 10 ho d_MO_finds_128 cl_MO (by decide) g_767 k_24 rfl rfl rfl (Nat.le_of_ble_eq_true rfl) (by first | exact Or.inl ⟨by omega, by omega⟩ | exact Or.inr ⟨by omega, by omega⟩) (fun H_27 p_28 z_29 q_30 => ?_)
                        have k_31 := k_25.kept (q_30 _ (by omega))
                        have k_32 := k_26.kept (q_30 _ (by omega))
                        have k_33 := p_21.kept (q_30 _ (by omega))
                        have hst := nB_miss (L := v.2.1) (os := aos v.2.1 v.2.2) (k := k) (by omega) (fun j a b => hn j a (by omega))
                        refine x_iinc (L' := [(1, zV (k + 1)), (2, zV i), (0, .ref m)]) ho 1 d_MO_finds_131 rfl rfl (by decide) rfl ?_
                        refine x_goto (tgt := 56) ho d_MO_finds_134 (by decide) ?_
                        refine x_sub (L' := [(1, zV (k + 1)), (0, .ref m)]) [0, 2] rfl ?_
                        exact ih_56 (k + 1) (zU U k (((nst v.2.1 (aos v.2.1 v.2.2) k.toNat).1.length : Int))) H_27 (by rw [hst]; show At D _ m (oO 11 [_, _, _, _, _, _, _, _, _, _, zV (((nst v.2.1 (aos v.2.1 v.2.2) k.toNat).1 ++ [k]).length : Int), _, _, _, _, _, _]); rw [snoc_len]; exact p_28) k_31 k_32 k_33 (by omega) (by rw [hst]; exact nst_put hu (by omega)) (by omega)
                      ·
                        omega
                    ·
                      omega
                  ·
                    refine x_aload_n ho 2 d_MO_finds_73 rfl ?_
                    refine x_iload_n ho 1 d_MO_finds_74 rfl ?_
                    refine x_iload_n ho 0 d_MO_finds_75 rfl ?_
                    refine x_callV (rest := []) ho d_MO_finds_76 yv_MO_areSame g_902 g_39 g_901 (c_MO_areSame M.2.1 D m kp fl (((aos v.2.1 v.2.2).length : Int)) (((nst v.2.1 (aos v.2.1 v.2.2) k.toNat).1.length : Int)) ty az v PF (aos v.2.1 v.2.2) k i (by exact hp) (by exact fun j a b => aos_m a b) (by omega) (by omega)) rfl rfl ⟨Nat.le_of_ble_eq_true rfl, Nat.le_of_ble_eq_true rfl⟩ ⟨Nat.le_of_ble_eq_true rfl, Nat.le_of_ble_eq_true rfl⟩ rfl rfl (Nat.le_of_ble_eq_true rfl) l_o rfl rfl ⟨l_o, l_n, l_p⟩ fr_none' (x_rd (fun v_34 hv_34 => ?_))
                    obtain rfl := hv_34
                    show X _ _ _ _ _ _ _ _ _ [zV (bI (sameR v.2.1 (aos v.2.1 v.2.2) k i))] _
                    refine x_if_neB (tgt := 88) ho d_MO_finds_79 (by decide) (fun c_79 => ?_) (fun c_79 => ?_)
                    ·
                      refine x_aload_n ho 2 d_MO_finds_88 rfl ?_
                      refine x_get 9 ho d_MO_finds_89 cl_MO (by decide) g_766 l_o rfl ?_
                      refine x_iload_n ho 1 d_MO_finds_92 rfl ?_
                      refine x_iload_n ho 0 d_MO_finds_93 rfl ?_
                      refine x_iload_n ho 1 d_MO_finds_94 rfl ?_
                      refine x_icmp_ge (tgt := 107) ho d_MO_finds_95 (by decide) (by omega) (by omega) (fun c_95 => ?_) (fun c_95 => ?_)
                      ·
                        omega
                      ·
                        refine x_aload_n ho 2 d_MO_finds_98 rfl ?_
                        refine x_get 9 ho d_MO_finds_99 cl_MO (by decide) g_766 l_o rfl ?_
                        refine x_iload_n ho 0 d_MO_finds_102 rfl ?_
                        refine x_iald ho d_MO_finds_103 l_u (by omega) (by omega) (by omega) ?_
                        refine x_eqI (b := gA (nst v.2.1 (aos v.2.1 v.2.2) k.toNat).2 i) (by exact hu i (by omega) (by omega)) ?_
                        refine x_goto (tgt := 111) ho d_MO_finds_104 (by decide) ?_
                        refine x_iast ho d_MO_finds_111 l_u (by omega) (by omega) (by omega) (by first | exact Or.inl ⟨by omega, by omega⟩ | exact Or.inr ⟨by omega, by omega⟩) (fun H_36 p_37 z_38 q_39 => ?_)
                        have k_40 := l_o.kept (q_39 _ (by omega))
                        have k_41 := l_n.kept (q_39 _ (by omega))
                        have k_42 := l_p.kept (q_39 _ (by omega))
                        refine x_aload_n ho 2 d_MO_finds_112 rfl ?_
                        refine x_dup ho d_MO_finds_113 rfl ?_
                        refine x_get 10 ho d_MO_finds_114 cl_MO (by decide) g_767 k_40 rfl ?_
                        refine x_iload_n ho 0 d_MO_finds_117 rfl ?_
                        refine x_iload_n ho 1 d_MO_finds_118 rfl ?_
                        refine x_icmp_ge (tgt := 126) ho d_MO_finds_119 (by decide) (by omega) (by omega) (fun c_119 => ?_) (fun c_119 => ?_)
                        ·
                          omega
                        ·
                          refine x_iconst ho d_MO_finds_122 ?_
                          refine x_goto (tgt := 127) ho d_MO_finds_123 (by decide) ?_
                          refine x_iadd ho d_MO_finds_127 ?_
                          refine x_put 10 ho d_MO_finds_128 cl_MO (by decide) g_767 k_40 rfl rfl rfl (Nat.le_of_ble_eq_true rfl) (by first | exact Or.inl ⟨by omega, by omega⟩ | exact Or.inr ⟨by omega, by omega⟩) (fun H_43 p_44 z_45 q_46 => ?_)
                          have k_47 := k_41.kept (q_46 _ (by omega))
                          have k_48 := k_42.kept (q_46 _ (by omega))
                          have k_49 := p_37.kept (q_46 _ (by omega))
                          have hst := nB_hit (L := v.2.1) (os := aos v.2.1 v.2.2) (k := k) (i := i) (by omega) (by omega) (by omega) c_79
                          refine x_iinc (L' := [(1, zV (k + 1)), (2, zV i), (0, .ref m)]) ho 1 d_MO_finds_131 rfl rfl (by decide) rfl ?_
                          refine x_goto (tgt := 56) ho d_MO_finds_134 (by decide) ?_
                          refine x_sub (L' := [(1, zV (k + 1)), (0, .ref m)]) [0, 2] rfl ?_
                          exact ih_56 (k + 1) (zU U k (gA (nst v.2.1 (aos v.2.1 v.2.2) k.toNat).2 i)) H_43 (by rw [hst]; exact p_44) k_47 k_48 k_49 (by omega) (by rw [hst]; exact nst_put hu (by omega)) (by omega)
                    ·
                      refine x_iinc (L' := [(2, zV (i + 1)), (1, zV k), (0, .ref m)]) ho 0 d_MO_finds_82 rfl rfl (by decide) rfl ?_
                      refine x_goto (tgt := 68) ho d_MO_finds_85 (by decide) ?_
                      exact ih_68 (i + 1) (by omega) (by intro j a b; rcases (show j < i ∨ j = i by omega) with z | z; exact hn j a z; rw [z]; exact c_79) (by omega)
              exact loop_68 _ 0 (by omega) (by exact fun j a b => by omega) (Nat.lt_succ_self _)
        exact loop_56 _ 0 u H_15 (by have q9 := l_o; rw [eq] at q9; exact q9) l_n l_p l_u (by exact ⟨Int.le_refl 0, by rw [hrl]; split <;> omega⟩) (by exact fun j a b => by omega) (Nat.lt_succ_self _)
      ·
        have hcp : ((q.toNat : Nat) : Int) = q := by omega
        have hol := ocN_len v.2.1 v.2.2 q.toNat
        refine x_aload_n ho 1 d_MO_finds_20 rfl ?_
        refine x_iload_n ho 0 d_MO_finds_21 rfl ?_
        refine x_callV (rest := []) ho d_MO_finds_22 yv_MO_comesAt g_899 g_38 g_898 (c_MO_comesAt M.2.1 D m kp fl (((ocN v.2.1 v.2.2 q.toNat).length : Int)) 0 ty az v q (by omega)) rfl rfl ⟨Nat.le_of_ble_eq_true rfl, Nat.le_of_ble_eq_true rfl⟩ ⟨Nat.le_of_ble_eq_true rfl, Nat.le_of_ble_eq_true rfl⟩ rfl rfl (Nat.le_of_ble_eq_true rfl) l_o rfl rfl ⟨l_o, l_n⟩ fr_none' (x_rd (fun v_50 hv_50 => ?_))
        obtain rfl := hv_50
        show X _ _ _ _ _ _ _ _ _ [zV (bI (occ v.2.1 v.2.2 q))] _
        refine x_if_eqB (tgt := 48) ho d_MO_finds_25 (by decide) (fun c_25 => ?_) (fun c_25 => ?_)
        ·
          refine x_iinc (L' := [(1, zV (q + 1)), (0, .ref m)]) ho 0 d_MO_finds_48 rfl rfl (by decide) rfl ?_
          refine x_goto (tgt := 12) ho d_MO_finds_51 (by decide) ?_
          exact ih_12 (q + 1) PF H_15 (by rw [show (q + 1).toNat = q.toNat + 1 by omega, ocN_f (by rw [hcp]; exact c_25)]; exact l_o) l_n l_p l_u (by omega) (by rw [show (q + 1).toNat = q.toNat + 1 by omega, ocN_f (by rw [hcp]; exact c_25)]; exact hp) (by omega)
        ·
          refine x_aload_n ho 1 d_MO_finds_28 rfl ?_
          refine x_get 7 ho d_MO_finds_29 cl_MO (by decide) g_764 l_o rfl ?_
          refine x_aload_n ho 1 d_MO_finds_32 rfl ?_
          refine x_get 8 ho d_MO_finds_33 cl_MO (by decide) g_765 l_o rfl ?_
          refine x_iload_n ho 0 d_MO_finds_36 rfl ?_
          refine x_iast ho d_MO_finds_37 l_p (by omega) (by omega) (by omega) (by first | exact Or.inl ⟨by omega, by omega⟩ | exact Or.inr ⟨by omega, by omega⟩) (fun H_52 p_53 z_54 q_55 => ?_)
          have k_56 := l_o.kept (q_55 _ (by omega))
          have k_57 := l_n.kept (q_55 _ (by omega))
          have k_58 := l_u.kept (q_55 _ (by omega))
          refine x_aload_n ho 1 d_MO_finds_38 rfl ?_
          refine x_dup ho d_MO_finds_39 rfl ?_
          refine x_get 8 ho d_MO_finds_40 cl_MO (by decide) g_765 k_56 rfl ?_
          refine x_iconst ho d_MO_finds_43 ?_
          refine x_iadd ho d_MO_finds_44 ?_
          refine x_put 8 ho d_MO_finds_45 cl_MO (by decide) g_765 k_56 rfl rfl rfl (Nat.le_of_ble_eq_true rfl) (by first | exact Or.inl ⟨by omega, by omega⟩ | exact Or.inr ⟨by omega, by omega⟩) (fun H_59 p_60 z_61 q_62 => ?_)
          have k_63 := k_57.kept (q_62 _ (by omega))
          have k_64 := k_58.kept (q_62 _ (by omega))
          have k_65 := p_53.kept (q_62 _ (by omega))
          refine x_iinc (L' := [(1, zV (q + 1)), (0, .ref m)]) ho 0 d_MO_finds_48 rfl rfl (by decide) rfl ?_
          refine x_goto (tgt := 12) ho d_MO_finds_51 (by decide) ?_
          exact ih_12 (q + 1) (zU PF (((ocN v.2.1 v.2.2 q.toNat).length : Int)) q) H_59 (by rw [show (q + 1).toNat = q.toNat + 1 by omega, ocN_t (by rw [hcp]; exact c_25), snoc_len]; exact p_60) k_63 k_65 k_64 (by omega) (by rw [show (q + 1).toNat = q.toNat + 1 by omega, ocN_t (by rw [hcp]; exact c_25), hcp, snoc_len]; exact nst_put hp rfl) (by omega)
  exact loop_12 _ 0 p H_8 p_9 k_12 k_13 k_14 (by omega) (by exact fun j a b => by have b2 : j < 0 := b; omega) (Nat.lt_succ_self _)
