def q_MO_balance (D : GG) (m : Nat) (V : WV) (z1 : Int) (z2 : Int) : Option Value → Heap → Prop := fun v0 H => v0 = some (zV (r_balance z1 z2 V)) ∧ isO D H m V
theorem yv_MO_balance : Yv y_MO_balance b_MO_balance 7 (Option.some FieldType.int) 2 := ⟨g_994, g_65, by decide, by decide +kernel⟩
set_option maxHeartbeats 4000000 in
set_option maxRecDepth 100000 in
theorem c_MO_balance (l0 : Launch) (D : GG) (m : Nat) (V : WV) (z1 : Int) (z2 : Int) (hz1 : -2147483648 ≤ z1 ∧ z1 ≤ 2147483647) (hz2 : -2147483648 ≤ z2 ∧ z2 ≤ 2147483647) : Ct l0 D y_MO_balance b_MO_balance 7 (Option.some FieldType.int) ({ frames := 2, cells := 0, slots := 0, locals := 46 } : Room) [.ref m, zV z1, zV z2] (fun H => isO D H m V) (rA m (m + 12)) 0 0 (q_MO_balance D m V z1 z2) := by
  refine Ct.of (L := [(0, .ref m), (1, zV z1), (2, zV z2)]) (by decide) (Nat.le_of_ble_eq_true rfl) rfl (fun M H ho hr hnm hH hpre => ?_)
  have hW := hpre
  obtain ⟨o_fo, o_di, o_az, o_t, o_b, o_p, o_u, o_c, o_e, o_y, a_o, a_n, a_h, a_s, a_t, a_b, a_p, a_u, a_x, a_c, a_e, a_y, a_k⟩ := id hW
  have n_o := a_n.ok
  have n_1 := n_o.1
  have n_2 := n_o.2.1
  have n_3 := n_o.2.2
  have h_b := a_h.b
  refine x_iload_n ho 1 d_MO_balance_0 rfl ?_
  refine x_callS (rest := []) ho d_MO_balance_1 yv_MO_no g_856 g_855 (c_MO_no M.2.1 D z1 (by omega)) rfl rfl ⟨Nat.le_of_ble_eq_true rfl, Nat.le_of_ble_eq_true rfl⟩ ⟨Nat.le_of_ble_eq_true rfl, Nat.le_of_ble_eq_true rfl⟩ rfl rfl (Nat.le_of_ble_eq_true rfl) trivial fr_none' (x_rd (fun v_1 hv_1 => ?_))
  obtain rfl := hv_1
  show X _ _ _ _ _ _ _ _ _ [zV (bI (¬ isA z1))] _
  refine x_if_eqB (tgt := 9) ho d_MO_balance_4 (by decide) (fun c_4 => ?_) (fun c_4 => ?_)
  ·
    have z_4 : isA z1 := Classical.not_not.mp c_4
    refine x_iload_n ho 2 d_MO_balance_9 rfl ?_
    refine x_iconst ho d_MO_balance_10 ?_
    refine x_sipush (z := 300) ho d_MO_balance_11 (by decide) ?_
    refine x_callS (rest := []) ho d_MO_balance_14 yv_MO_in g_823 g_822 (c_MO_in M.2.1 D z2 1 300 (by omega) (by omega) (by omega)) rfl rfl ⟨Nat.le_of_ble_eq_true rfl, Nat.le_of_ble_eq_true rfl⟩ ⟨Nat.le_of_ble_eq_true rfl, Nat.le_of_ble_eq_true rfl⟩ rfl rfl (Nat.le_of_ble_eq_true rfl) trivial fr_none' (x_rd (fun v_3 hv_3 => ?_))
    obtain rfl := hv_3
    show X _ _ _ _ _ _ _ _ _ [zV (bI (1 ≤ z2 ∧ z2 ≤ 300))] _
    refine x_if_neB (tgt := 23) ho d_MO_balance_17 (by decide) (fun c_17 => ?_) (fun c_17 => ?_)
    ·
      have hp3 : 0 ≤ nP V.1.2.1 z2 ∧ nP V.1.2.1 z2 ≤ 300 := by unfold nP; split <;> omega
      refine x_iconst ho d_MO_balance_23 ?_
      refine x_istore_n (L' := [(3, zV (-1)), (0, .ref m), (1, zV z1), (2, zV z2)]) ho d_MO_balance_24 (by decide) rfl ?_
      refine x_sipush (z := 300) ho d_MO_balance_25 (by decide) ?_
      refine x_istore (L' := [(4, zV 300), (3, zV (-1)), (0, .ref m), (1, zV z1), (2, zV z2)]) ho d_MO_balance_28 (by decide) rfl ?_
      refine x_iconst ho d_MO_balance_30 ?_
      refine x_istore (L' := [(5, zV 0), (4, zV 300), (3, zV (-1)), (0, .ref m), (1, zV z1), (2, zV z2)]) ho d_MO_balance_31 (by decide) rfl ?_
      have loop_33 : ∀ (kk : Nat) (p : Int) (mo : Int) (le : Int) (p0 : 0 ≤ p ∧ p ≤ nP V.1.2.1 z2) (b0 : -1 ≤ mo ∧ mo ≤ 300 ∧ 0 ≤ le ∧ le ≤ 300 ∧ (1 ≤ p → 0 ≤ mo)) (hs : (p = 0 ∧ mo = -1 ∧ le = 300) ∨ (1 ≤ p ∧ isMM V.1.2.1 z1 z2 (p - 1 + z2) mo le)), (nP V.1.2.1 z2 - p).toNat < kk → X M ({ frames := 2, cells := 0, slots := 0, locals := 46 } : Room) 7 (rA m (m + 12)) 0 0 (Qof M (rA m (m + 12)) (q_MO_balance D m V z1 z2) 0 0) 33 [(5, zV p), (4, zV le), (3, zV mo), (0, .ref m), (1, zV z1), (2, zV z2)] [] H := by
        intro kk
        induction kk with
        | zero => intro p mo le p0 b0 hs hk; exact absurd hk (Nat.not_lt_zero _)
        | succ kk ih_33 =>
          intro p mo le p0 b0 hs hk_33
          refine x_iload ho 0 d_MO_balance_33 rfl ?_
          refine x_iload_n ho 5 d_MO_balance_35 rfl ?_
          refine x_iadd ho d_MO_balance_36 ?_
          refine x_aload_n ho 3 d_MO_balance_37 rfl ?_
          refine x_callV (rest := [zV (p + z2)]) ho d_MO_balance_38 yv_MO_length g_862 g_31 g_861 (c_MO_length M.2.1 D m ((V.2.2.2.1.length : Int)) V.2.2.1 o_fo o_di ((V.2.2.2.2.length : Int)) o_az V.1 ) rfl rfl ⟨Nat.le_of_ble_eq_true rfl, Nat.le_of_ble_eq_true rfl⟩ ⟨Nat.le_of_ble_eq_true rfl, Nat.le_of_ble_eq_true rfl⟩ rfl rfl (Nat.le_of_ble_eq_true rfl) a_o rfl rfl ⟨a_o, a_n⟩ fr_none' (x_rd (fun v_5 hv_5 => ?_))
          obtain ⟨rfl, lb_7⟩ := hv_5
          show X _ _ _ _ _ _ _ _ _ [zV ((V.1.2.1.length : Int)), zV (p + z2)] _
          refine x_icmp_gt (tgt := 89) ho d_MO_balance_41 (by decide) (by omega) (by omega) (fun c_41 => ?_) (fun c_41 => ?_)
          ·
            have hqe := nP_e p0.1 p0.2 (by omega) c_17.1
            refine x_iload_n ho 2 d_MO_balance_89 rfl ?_
            refine x_if_ge (tgt := 98) ho d_MO_balance_90 (by decide) (by omega) (fun c_90 => ?_) (fun c_90 => ?_)
            ·
              refine x_iload_n ho 2 d_MO_balance_98 rfl ?_
              refine x_iload ho 1 d_MO_balance_99 rfl ?_
              refine x_isub ho d_MO_balance_101 ?_
              refine x_iret ho hr d_MO_balance_102 ?_
              have hmm : isMM V.1.2.1 z1 z2 ((V.1.2.1.length : Int)) mo le := by rcases hs with h | h; omega; have q := h.2; rw [show p - 1 + z2 = (V.1.2.1.length : Int) by (unfold nP at hqe; split at hqe <;> omega)] at q; exact q
              have hgt : ¬ (V.1.2.1.length : Int) < z2 := by rcases hs with h | h; omega; unfold nP at hqe; split at hqe <;> omega
              exact ⟨rI (by unfold r_balance; rw [cif_t (z_4), cif_t (c_17), cif_f (hgt)]; exact (mmV_e hmm).symm), isO_mk a_o a_n a_h a_s a_t a_b a_p a_u a_x a_c a_e a_y a_k⟩
            ·
              refine x_bipush (z := (-5)) ho d_MO_balance_93 (by decide) ?_
              refine x_goto (tgt := 102) ho d_MO_balance_95 (by decide) ?_
              refine x_iret ho hr d_MO_balance_102 ?_
              have hp9 : p = 0 := by omega
              have hgt : (V.1.2.1.length : Int) < z2 := by (unfold nP at hqe; split at hqe <;> omega)
              exact ⟨rI (by unfold r_balance; rw [cif_t (z_4), cif_t (c_17), cif_t (hgt)]), isO_mk a_o a_n a_h a_s a_t a_b a_p a_u a_x a_c a_e a_y a_k⟩
          ·
            have hpl := nP_lt (L := V.1.2.1) (s := z2) (q := p) (by omega) (by omega)
            refine x_aload_n ho 3 d_MO_balance_44 rfl ?_
            refine x_iload_n ho 4 d_MO_balance_45 rfl ?_
            refine x_iload ho 0 d_MO_balance_46 rfl ?_
            refine x_iload_n ho 5 d_MO_balance_48 rfl ?_
            refine x_callV (rest := []) ho d_MO_balance_49 yv_MO_times g_996 g_50 g_995 (c_MO_times M.2.1 D m ((V.2.2.2.1.length : Int)) V.2.2.1 o_fo o_di ((V.2.2.2.2.length : Int)) o_az V.1 z1 p z2 (by omega) (by omega) (by omega)) rfl rfl ⟨Nat.le_of_ble_eq_true rfl, Nat.le_of_ble_eq_true rfl⟩ ⟨Nat.le_of_ble_eq_true rfl, Nat.le_of_ble_eq_true rfl⟩ rfl rfl (Nat.le_of_ble_eq_true rfl) a_o rfl rfl ⟨a_o, a_n⟩ fr_none' (x_rd (fun v_8 hv_8 => ?_))
            obtain ⟨rfl, cb_10⟩ := hv_8
            show X _ _ _ _ _ _ _ _ _ [zV (cw V.1.2.1 z1 z2 p)] _
            refine x_istore (L' := [(6, zV (cw V.1.2.1 z1 z2 p)), (5, zV p), (4, zV le), (3, zV mo), (0, .ref m), (1, zV z1), (2, zV z2)]) ho d_MO_balance_52 (by decide) rfl ?_
            refine x_iload ho 0 d_MO_balance_54 rfl ?_
            refine x_iload_n ho 3 d_MO_balance_56 rfl ?_
            refine x_icmp_le (tgt := 65) ho d_MO_balance_57 (by decide) (by omega) (by omega) (fun c_57 => ?_) (fun c_57 => ?_)
            ·
              refine x_iload_n ho 3 d_MO_balance_65 rfl ?_
              refine x_istore_n (L' := [(3, zV mo), (6, zV (cw V.1.2.1 z1 z2 p)), (5, zV p), (4, zV le), (0, .ref m), (1, zV z1), (2, zV z2)]) ho d_MO_balance_66 (by decide) rfl ?_
              refine x_iload ho 1 d_MO_balance_67 rfl ?_
              refine x_iload ho 3 d_MO_balance_69 rfl ?_
              refine x_icmp_ge (tgt := 79) ho d_MO_balance_71 (by decide) (by omega) (by omega) (fun c_71 => ?_) (fun c_71 => ?_)
              ·
                refine x_iload ho 3 d_MO_balance_79 rfl ?_
                refine x_istore (L' := [(4, zV le), (3, zV mo), (6, zV (cw V.1.2.1 z1 z2 p)), (5, zV p), (0, .ref m), (1, zV z1), (2, zV z2)]) ho d_MO_balance_81 (by decide) rfl ?_
                refine x_iinc (L' := [(5, zV (p + 1)), (4, zV le), (3, zV mo), (6, zV (cw V.1.2.1 z1 z2 p)), (0, .ref m), (1, zV z1), (2, zV z2)]) ho 3 d_MO_balance_83 rfl rfl (by decide) rfl ?_
                refine x_goto (tgt := 33) ho d_MO_balance_86 (by decide) ?_
                refine x_sub (L' := [(5, zV (p + 1)), (4, zV le), (3, zV mo), (0, .ref m), (1, zV z1), (2, zV z2)]) [0, 1, 2, 4, 5, 6] rfl ?_
                exact ih_33 (p + 1) mo le (by omega) (by omega) (by exact Or.inr ⟨by omega, by rw [show p + 1 - 1 + z2 = p + z2 by omega]; exact mm_nx hs c_17 rfl cb_10 (by split <;> omega) (by split <;> omega)⟩) (by omega)
              ·
                refine x_iload ho 1 d_MO_balance_74 rfl ?_
                refine x_goto (tgt := 81) ho d_MO_balance_76 (by decide) ?_
                refine x_istore (L' := [(4, zV (cw V.1.2.1 z1 z2 p)), (3, zV mo), (6, zV (cw V.1.2.1 z1 z2 p)), (5, zV p), (0, .ref m), (1, zV z1), (2, zV z2)]) ho d_MO_balance_81 (by decide) rfl ?_
                refine x_iinc (L' := [(5, zV (p + 1)), (4, zV (cw V.1.2.1 z1 z2 p)), (3, zV mo), (6, zV (cw V.1.2.1 z1 z2 p)), (0, .ref m), (1, zV z1), (2, zV z2)]) ho 3 d_MO_balance_83 rfl rfl (by decide) rfl ?_
                refine x_goto (tgt := 33) ho d_MO_balance_86 (by decide) ?_
                refine x_sub (L' := [(5, zV (p + 1)), (4, zV (cw V.1.2.1 z1 z2 p)), (3, zV mo), (0, .ref m), (1, zV z1), (2, zV z2)]) [0, 1, 2, 4, 5, 6] rfl ?_
                exact ih_33 (p + 1) mo (cw V.1.2.1 z1 z2 p) (by omega) (by omega) (by exact Or.inr ⟨by omega, by rw [show p + 1 - 1 + z2 = p + z2 by omega]; exact mm_nx hs c_17 rfl cb_10 (by split <;> omega) (by split <;> omega)⟩) (by omega)
            ·
              refine x_iload ho 0 d_MO_balance_60 rfl ?_
              refine x_goto (tgt := 66) ho d_MO_balance_62 (by decide) ?_
              refine x_istore_n (L' := [(3, zV (cw V.1.2.1 z1 z2 p)), (6, zV (cw V.1.2.1 z1 z2 p)), (5, zV p), (4, zV le), (0, .ref m), (1, zV z1), (2, zV z2)]) ho d_MO_balance_66 (by decide) rfl ?_
              refine x_iload ho 1 d_MO_balance_67 rfl ?_
              refine x_iload ho 3 d_MO_balance_69 rfl ?_
              refine x_icmp_ge (tgt := 79) ho d_MO_balance_71 (by decide) (by omega) (by omega) (fun c_71 => ?_) (fun c_71 => ?_)
              ·
                refine x_iload ho 3 d_MO_balance_79 rfl ?_
                refine x_istore (L' := [(4, zV le), (3, zV (cw V.1.2.1 z1 z2 p)), (6, zV (cw V.1.2.1 z1 z2 p)), (5, zV p), (0, .ref m), (1, zV z1), (2, zV z2)]) ho d_MO_balance_81 (by decide) rfl ?_
                refine x_iinc (L' := [(5, zV (p + 1)), (4, zV le), (3, zV (cw V.1.2.1 z1 z2 p)), (6, zV (cw V.1.2.1 z1 z2 p)), (0, .ref m), (1, zV z1), (2, zV z2)]) ho 3 d_MO_balance_83 rfl rfl (by decide) rfl ?_
                refine x_goto (tgt := 33) ho d_MO_balance_86 (by decide) ?_
                refine x_sub (L' := [(5, zV (p + 1)), (4, zV le), (3, zV (cw V.1.2.1 z1 z2 p)), (0, .ref m), (1, zV z1), (2, zV z2)]) [0, 1, 2, 4, 5, 6] rfl ?_
                exact ih_33 (p + 1) (cw V.1.2.1 z1 z2 p) le (by omega) (by omega) (by exact Or.inr ⟨by omega, by rw [show p + 1 - 1 + z2 = p + z2 by omega]; exact mm_nx hs c_17 rfl cb_10 (by split <;> omega) (by split <;> omega)⟩) (by omega)
              ·
                refine x_iload ho 1 d_MO_balance_74 rfl ?_
                refine x_goto (tgt := 81) ho d_MO_balance_76 (by decide) ?_
                refine x_istore (L' := [(4, zV (cw V.1.2.1 z1 z2 p)), (3, zV (cw V.1.2.1 z1 z2 p)), (6, zV (cw V.1.2.1 z1 z2 p)), (5, zV p), (0, .ref m), (1, zV z1), (2, zV z2)]) ho d_MO_balance_81 (by decide) rfl ?_
                refine x_iinc (L' := [(5, zV (p + 1)), (4, zV (cw V.1.2.1 z1 z2 p)), (3, zV (cw V.1.2.1 z1 z2 p)), (6, zV (cw V.1.2.1 z1 z2 p)), (0, .ref m), (1, zV z1), (2, zV z2)]) ho 3 d_MO_balance_83 rfl rfl (by decide) rfl ?_
                refine x_goto (tgt := 33) ho d_MO_balance_86 (by decide) ?_
                refine x_sub (L' := [(5, zV (p + 1)), (4, zV (cw V.1.2.1 z1 z2 p)), (3, zV (cw V.1.2.1 z1 z2 p)), (0, .ref m), (1, zV z1), (2, zV z2)]) [0, 1, 2, 4, 5, 6] rfl ?_
                exact ih_33 (p + 1) (cw V.1.2.1 z1 z2 p) (cw V.1.2.1 z1 z2 p) (by omega) (by omega) (by exact Or.inr ⟨by omega, by rw [show p + 1 - 1 + z2 = p + z2 by omega]; exact mm_nx hs c_17 rfl cb_10 (by split <;> omega) (by split <;> omega)⟩) (by omega)
      exact loop_33 _ 0 (-1) 300 (by omega) (by omega) (by exact Or.inl ⟨rfl, rfl, rfl⟩) (Nat.lt_succ_self _)
    ·
      refine x_bipush (z := (-2)) ho d_MO_balance_20 (by decide) ?_
      refine x_iret ho hr d_MO_balance_22 ?_
      exact ⟨rI (by unfold r_balance; rw [cif_t (z_4), cif_f (c_17)]), isO_mk a_o a_n a_h a_s a_t a_b a_p a_u a_x a_c a_e a_y a_k⟩
  ·
    have z_4 : ¬ isA z1 := c_4
    refine x_iconst ho d_MO_balance_7 ?_
    refine x_iret ho hr d_MO_balance_8 ?_
    exact ⟨rI (by unfold r_balance; rw [cif_f (z_4)]), isO_mk a_o a_n a_h a_s a_t a_b a_p a_u a_x a_c a_e a_y a_k⟩
def q_MO_run (D : GG) (m : Nat) (V : WV) (z1 : Int) : Option Value → Heap → Prop := fun v0 H => v0 = some (zV (r_run z1 V)) ∧ isO D H m V
theorem yv_MO_run : Yv y_MO_run b_MO_run 8 (Option.some FieldType.int) 1 := ⟨g_1008, g_65, by decide, by decide +kernel⟩
set_option maxHeartbeats 4000000 in
set_option maxRecDepth 100000 in
theorem c_MO_run (l0 : Launch) (D : GG) (m : Nat) (V : WV) (z1 : Int) (hz1 : -2147483648 ≤ z1 ∧ z1 ≤ 2147483647) : Ct l0 D y_MO_run b_MO_run 8 (Option.some FieldType.int) ({ frames := 1, cells := 0, slots := 0, locals := 24 } : Room) [.ref m, zV z1] (fun H => isO D H m V) (rA m (m + 12)) 0 0 (q_MO_run D m V z1) := by
  refine Ct.of (L := [(0, .ref m), (1, zV z1)]) (by decide) (Nat.le_of_ble_eq_true rfl) rfl (fun M H ho hr hnm hH hpre => ?_)
  have hW := hpre
  obtain ⟨o_fo, o_di, o_az, o_t, o_b, o_p, o_u, o_c, o_e, o_y, a_o, a_n, a_h, a_s, a_t, a_b, a_p, a_u, a_x, a_c, a_e, a_y, a_k⟩ := id hW
  have n_o := a_n.ok
  have n_1 := n_o.1
  have n_2 := n_o.2.1
  have n_3 := n_o.2.2
  have h_b := a_h.b
  refine x_iload_n ho 1 d_MO_run_0 rfl ?_
  refine x_iconst ho d_MO_run_1 ?_
  refine x_iconst ho d_MO_run_2 ?_
  refine x_callS (rest := []) ho d_MO_run_3 yv_MO_in g_823 g_822 (c_MO_in M.2.1 D z1 0 4 (by omega) (by omega) (by omega)) rfl rfl ⟨Nat.le_of_ble_eq_true rfl, Nat.le_of_ble_eq_true rfl⟩ ⟨Nat.le_of_ble_eq_true rfl, Nat.le_of_ble_eq_true rfl⟩ rfl rfl (Nat.le_of_ble_eq_true rfl) trivial fr_none' (x_rd (fun v_1 hv_1 => ?_))
  obtain rfl := hv_1
  show X _ _ _ _ _ _ _ _ _ [zV (bI (0 ≤ z1 ∧ z1 ≤ 4))] _
  refine x_if_neB (tgt := 12) ho d_MO_run_6 (by decide) (fun c_6 => ?_) (fun c_6 => ?_)
  ·
    refine x_iconst ho d_MO_run_12 ?_
    refine x_istore_n (L' := [(2, zV 1), (0, .ref m), (1, zV z1)]) ho d_MO_run_13 (by decide) rfl ?_
    refine x_iconst ho d_MO_run_14 ?_
    refine x_istore_n (L' := [(3, zV 0), (2, zV 1), (0, .ref m), (1, zV z1)]) ho d_MO_run_15 (by decide) rfl ?_
    refine x_iconst ho d_MO_run_16 ?_
    refine x_istore (L' := [(4, zV 1), (3, zV 0), (2, zV 1), (0, .ref m), (1, zV z1)]) ho d_MO_run_17 (by decide) rfl ?_
    refine x_iconst ho d_MO_run_19 ?_
    refine x_istore (L' := [(5, zV 1), (4, zV 1), (3, zV 0), (2, zV 1), (0, .ref m), (1, zV z1)]) ho d_MO_run_20 (by decide) rfl ?_
    have loop_22 : ∀ (kk : Nat) (p : Int) (pe : Int) (pl : Int) (le : Int) (p0 : 1 ≤ p ∧ p ≤ (V.1.2.1.length : Int)) (gb : 1 ≤ pe ∧ pe ≤ 300 ∧ 0 ≤ pl ∧ pl ≤ 300 ∧ 1 ≤ le ∧ le ≤ 300) (hO : (pe, pl, le) = grO V.1.2.1 (p - 1).toNat), ((V.1.2.1.length : Int) - p).toNat < kk → X M ({ frames := 1, cells := 0, slots := 0, locals := 24 } : Room) 8 (rA m (m + 12)) 0 0 (Qof M (rA m (m + 12)) (q_MO_run D m V z1) 0 0) 22 [(5, zV p), (4, zV le), (3, zV pl), (2, zV pe), (0, .ref m), (1, zV z1)] [] H := by
      intro kk
      induction kk with
      | zero => intro p pe pl le p0 gb hO hk; exact absurd hk (Nat.not_lt_zero _)
      | succ kk ih_22 =>
        intro p pe pl le p0 gb hO hk_22
        refine x_iload ho 0 d_MO_run_22 rfl ?_
        refine x_aload_n ho 4 d_MO_run_24 rfl ?_
        refine x_callV (rest := [zV p]) ho d_MO_run_25 yv_MO_length g_862 g_31 g_861 (c_MO_length M.2.1 D m ((V.2.2.2.1.length : Int)) V.2.2.1 o_fo o_di ((V.2.2.2.2.length : Int)) o_az V.1 ) rfl rfl ⟨Nat.le_of_ble_eq_true rfl, Nat.le_of_ble_eq_true rfl⟩ ⟨Nat.le_of_ble_eq_true rfl, Nat.le_of_ble_eq_true rfl⟩ rfl rfl (Nat.le_of_ble_eq_true rfl) a_o rfl rfl ⟨a_o, a_n⟩ fr_none' (x_rd (fun v_3 hv_3 => ?_))
        obtain ⟨rfl, lb_5⟩ := hv_3
        show X _ _ _ _ _ _ _ _ _ [zV ((V.1.2.1.length : Int)), zV p] _
        refine x_icmp_ge (tgt := 122) ho d_MO_run_28 (by decide) (by omega) (by omega) (fun c_28 => ?_) (fun c_28 => ?_)
        ·
          rw [show p = (V.1.2.1.length : Int) by omega] at hO
          have hgs : (pe, pl, le) = grV V.1.2.1 := hO
          refine x_iload ho 1 d_MO_run_122 rfl ?_
          refine x_iload_n ho 3 d_MO_run_124 rfl ?_
          refine x_callS (rest := []) ho d_MO_run_125 yv_MO_divisor g_1003 g_1002 (c_MO_divisor M.2.1 D le pe (by omega) (by omega)) rfl rfl ⟨Nat.le_of_ble_eq_true rfl, Nat.le_of_ble_eq_true rfl⟩ ⟨Nat.le_of_ble_eq_true rfl, Nat.le_of_ble_eq_true rfl⟩ rfl rfl (Nat.le_of_ble_eq_true rfl) trivial fr_none' (x_rd (fun v_6 hv_6 => ?_))
          obtain ⟨rfl, hd_8⟩ := hv_6
          show X _ _ _ _ _ _ _ _ _ [zV (dv le pe)] _
          refine x_istore (L' := [(5, zV (dv le pe)), (4, zV le), (3, zV pl), (2, zV pe), (0, .ref m), (1, zV z1)]) ho d_MO_run_128 (by decide) rfl ?_
          have hdd := dv_1 (a := le) (b := pe) (by omega)
          refine x_iload_n ho 5 d_MO_run_130 rfl ?_
          refine x_if_ne (tgt := 138) ho d_MO_run_131 (by decide) (by omega) (fun c_131 => ?_) (fun c_131 => ?_)
          ·
            refine x_iload_n ho 5 d_MO_run_138 rfl ?_
            refine x_iconst ho d_MO_run_139 ?_
            refine x_icmp_ne (tgt := 147) ho d_MO_run_140 (by decide) (by omega) (by omega) (fun c_140 => ?_) (fun c_140 => ?_)
            ·
              refine x_iload_n ho 5 d_MO_run_147 rfl ?_
              refine x_iconst ho d_MO_run_148 ?_
              refine x_icmp_ne (tgt := 157) ho d_MO_run_149 (by decide) (by omega) (by omega) (fun c_149 => ?_) (fun c_149 => ?_)
              ·
                refine x_iload_n ho 5 d_MO_run_157 rfl ?_
                refine x_iconst ho d_MO_run_158 ?_
                refine x_icmp_ne (tgt := 167) ho d_MO_run_159 (by decide) (by omega) (by omega) (fun c_159 => ?_) (fun c_159 => ?_)
                ·
                  refine x_iload_n ho 3 d_MO_run_167 rfl ?_
                  refine x_iload ho 0 d_MO_run_168 rfl ?_
                  refine x_idiv ho d_MO_run_170 (by omega) (by omega) ?_
                  refine x_iret ho hr d_MO_run_171 ?_
                  exact ⟨rI (by unfold r_run; rw [← hgs, cif_t (c_6), cif_f (by omega), cif_f (by omega), cif_f (by omega), cif_f (by omega)]), isO_mk a_o a_n a_h a_s a_t a_b a_p a_u a_x a_c a_e a_y a_k⟩
                ·
                  refine x_iload ho 1 d_MO_run_162 rfl ?_
                  refine x_goto (tgt := 168) ho d_MO_run_164 (by decide) ?_
                  refine x_iload ho 0 d_MO_run_168 rfl ?_
                  refine x_idiv ho d_MO_run_170 (by omega) (by omega) ?_
                  refine x_iret ho hr d_MO_run_171 ?_
                  exact ⟨rI (by unfold r_run; rw [← hgs, cif_t (c_6), cif_f (by omega), cif_f (by omega), cif_f (by omega), cif_t (by omega)]), isO_mk a_o a_n a_h a_s a_t a_b a_p a_u a_x a_c a_e a_y a_k⟩
              ·
                refine x_iload ho 1 d_MO_run_152 rfl ?_
                refine x_goto (tgt := 171) ho d_MO_run_154 (by decide) ?_
                refine x_iret ho hr d_MO_run_171 ?_
                exact ⟨rI (by unfold r_run; rw [← hgs, cif_t (c_6), cif_f (by omega), cif_f (by omega), cif_t (by omega)]), isO_mk a_o a_n a_h a_s a_t a_b a_p a_u a_x a_c a_e a_y a_k⟩
            ·
              refine x_iload_n ho 2 d_MO_run_143 rfl ?_
              refine x_goto (tgt := 171) ho d_MO_run_144 (by decide) ?_
              refine x_iret ho hr d_MO_run_171 ?_
              exact ⟨rI (by unfold r_run; rw [← hgs, cif_t (c_6), cif_f (by omega), cif_t (by omega)]), isO_mk a_o a_n a_h a_s a_t a_b a_p a_u a_x a_c a_e a_y a_k⟩
          ·
            refine x_iload_n ho 3 d_MO_run_134 rfl ?_
            refine x_goto (tgt := 171) ho d_MO_run_135 (by decide) ?_
            refine x_iret ho hr d_MO_run_171 ?_
            exact ⟨rI (by unfold r_run; rw [← hgs, cif_t (c_6), cif_t (by omega)]), isO_mk a_o a_n a_h a_s a_t a_b a_p a_u a_x a_c a_e a_y a_k⟩
        ·
          refine x_iconst ho d_MO_run_31 ?_
          refine x_istore (L' := [(6, zV 0), (5, zV p), (4, zV le), (3, zV pl), (2, zV pe), (0, .ref m), (1, zV z1)]) ho d_MO_run_32 (by decide) rfl ?_
          refine x_iconst ho d_MO_run_34 ?_
          refine x_istore (L' := [(7, zV 0), (6, zV 0), (5, zV p), (4, zV le), (3, zV pl), (2, zV pe), (0, .ref m), (1, zV z1)]) ho d_MO_run_35 (by decide) rfl ?_
          have loop_37 : ∀ (kk : Nat) (k : Int) (r : Int) (pe : Int) (pl : Int) (le : Int) (k0 : 0 ≤ k ∧ k ≤ (V.1.2.1.length : Int) - p) (r0 : 0 ≤ r ∧ r ≤ k) (gb : 1 ≤ pe ∧ pe ≤ 300 ∧ 0 ≤ pl ∧ pl ≤ 300 ∧ 1 ≤ le ∧ le ≤ 300) (hI : (r, pe, pl, le) = grI V.1.2.1 p (0, grO V.1.2.1 (p - 1).toNat) k.toNat), ((V.1.2.1.length : Int) - p - k).toNat < kk → X M ({ frames := 1, cells := 0, slots := 0, locals := 24 } : Room) 8 (rA m (m + 12)) 0 0 (Qof M (rA m (m + 12)) (q_MO_run D m V z1) 0 0) 37 [(7, zV k), (6, zV r), (5, zV p), (4, zV le), (3, zV pl), (2, zV pe), (0, .ref m), (1, zV z1)] [] H := by
            intro kk
            induction kk with
            | zero => intro k r pe pl le k0 r0 gb hI hk; exact absurd hk (Nat.not_lt_zero _)
            | succ kk ih_37 =>
              intro k r pe pl le k0 r0 gb hI hk_37
              refine x_iload ho 0 d_MO_run_37 rfl ?_
              refine x_iload ho 2 d_MO_run_39 rfl ?_
              refine x_iadd ho d_MO_run_41 ?_
              refine x_aload_n ho 6 d_MO_run_42 rfl ?_
              refine x_callV (rest := [zV (k + p)]) ho d_MO_run_43 yv_MO_length g_862 g_31 g_861 (c_MO_length M.2.1 D m ((V.2.2.2.1.length : Int)) V.2.2.1 o_fo o_di ((V.2.2.2.2.length : Int)) o_az V.1 ) rfl rfl ⟨Nat.le_of_ble_eq_true rfl, Nat.le_of_ble_eq_true rfl⟩ ⟨Nat.le_of_ble_eq_true rfl, Nat.le_of_ble_eq_true rfl⟩ rfl rfl (Nat.le_of_ble_eq_true rfl) a_o rfl rfl ⟨a_o, a_n⟩ fr_none' (x_rd (fun v_9 hv_9 => ?_))
              obtain ⟨rfl, lb_11⟩ := hv_9
              show X _ _ _ _ _ _ _ _ _ [zV ((V.1.2.1.length : Int)), zV (k + p)] _
              refine x_icmp_ge (tgt := 116) ho d_MO_run_46 (by decide) (by omega) (by omega) (fun c_46 => ?_) (fun c_46 => ?_)
              ·
                refine x_iinc (L' := [(5, zV (p + 1)), (7, zV k), (6, zV r), (4, zV le), (3, zV pl), (2, zV pe), (0, .ref m), (1, zV z1)]) ho 2 d_MO_run_116 rfl rfl (by decide) rfl ?_
                refine x_goto (tgt := 22) ho d_MO_run_119 (by decide) ?_
                refine x_sub (L' := [(5, zV (p + 1)), (4, zV le), (3, zV pl), (2, zV pe), (0, .ref m), (1, zV z1)]) [0, 3, 4, 5, 6, 7] rfl ?_
                exact ih_22 (p + 1) pe pl le (by omega) (by omega) (by exact grO_k p0.1 (by omega) hI) (by omega)
              ·
                refine x_aload_n ho 6 d_MO_run_49 rfl ?_
                refine x_iload ho 0 d_MO_run_50 rfl ?_
                refine x_callV (rest := []) ho d_MO_run_52 yv_MO_word g_865 g_32 g_864 (c_MO_word M.2.1 D m ((V.2.2.2.1.length : Int)) V.2.2.1 o_fo o_di ((V.2.2.2.2.length : Int)) o_az V.1 k (by omega)) rfl rfl ⟨Nat.le_of_ble_eq_true rfl, Nat.le_of_ble_eq_true rfl⟩ ⟨Nat.le_of_ble_eq_true rfl, Nat.le_of_ble_eq_true rfl⟩ rfl rfl (Nat.le_of_ble_eq_true rfl) a_o rfl rfl ⟨a_o, a_n⟩ fr_none' (x_rd (fun v_12 hv_12 => ?_))
                obtain ⟨rfl, gb_14⟩ := hv_12
                show X _ _ _ _ _ _ _ _ _ [zV (gA V.1.2.1 k)] _
                refine x_aload_n ho 6 d_MO_run_55 rfl ?_
                refine x_iload ho 0 d_MO_run_56 rfl ?_
                refine x_iload ho 2 d_MO_run_58 rfl ?_
                refine x_iadd ho d_MO_run_60 ?_
                refine x_callV (rest := [zV (gA V.1.2.1 k)]) ho d_MO_run_61 yv_MO_word g_865 g_32 g_864 (c_MO_word M.2.1 D m ((V.2.2.2.1.length : Int)) V.2.2.1 o_fo o_di ((V.2.2.2.2.length : Int)) o_az V.1 (k + p) (by omega)) rfl rfl ⟨Nat.le_of_ble_eq_true rfl, Nat.le_of_ble_eq_true rfl⟩ ⟨Nat.le_of_ble_eq_true rfl, Nat.le_of_ble_eq_true rfl⟩ rfl rfl (Nat.le_of_ble_eq_true rfl) a_o rfl rfl ⟨a_o, a_n⟩ fr_none' (x_rd (fun v_15 hv_15 => ?_))
                obtain ⟨rfl, gb_17⟩ := hv_15
                show X _ _ _ _ _ _ _ _ _ [zV (gA V.1.2.1 (k + p)), zV (gA V.1.2.1 k)] _
                refine x_icmp_ne (tgt := 74) ho d_MO_run_64 (by decide) (by omega) (by omega) (fun c_64 => ?_) (fun c_64 => ?_)
                ·
                  refine x_iconst ho d_MO_run_74 ?_
                  refine x_istore (L' := [(6, zV 0), (7, zV k), (5, zV p), (4, zV le), (3, zV pl), (2, zV pe), (0, .ref m), (1, zV z1)]) ho d_MO_run_75 (by decide) rfl ?_
                  refine x_iload ho 0 d_MO_run_77 rfl ?_
                  refine x_iload ho 2 d_MO_run_79 rfl ?_
                  refine x_iadd ho d_MO_run_81 ?_
                  refine x_iload_n ho 5 d_MO_run_82 rfl ?_
                  refine x_imul ho d_MO_run_83 ?_
                  refine x_iload ho 3 d_MO_run_84 rfl ?_
                  refine x_iload ho 2 d_MO_run_86 rfl ?_
                  refine x_imul ho d_MO_run_88 ?_
                  refine x_icmp_le (tgt := 110) ho d_MO_run_89 (by decide) (by have h1 := mul_9 (a := 0 + p) (b := pe) ⟨by omega, by omega⟩ ⟨by omega, by omega⟩; omega) (by have h1 := mul_9 (a := le) (b := p) ⟨by omega, by omega⟩ ⟨by omega, by omega⟩; omega) (fun c_89 => ?_) (fun c_89 => ?_)
                  ·
                    refine x_iinc (L' := [(7, zV (k + 1)), (6, zV 0), (5, zV p), (4, zV le), (3, zV pl), (2, zV pe), (0, .ref m), (1, zV z1)]) ho 1 d_MO_run_110 rfl rfl (by decide) rfl ?_
                    refine x_goto (tgt := 37) ho d_MO_run_113 (by decide) ?_
                    exact ih_37 (k + 1) 0 pe pl le (by omega) (by omega) (by omega) (by rw [grI_k k0.1 hI]; exact (mg_a c_64 c_89).symm) (by omega)
                  ·
                    refine x_iload ho 2 d_MO_run_92 rfl ?_
                    refine x_istore_n (L' := [(2, zV p), (6, zV 0), (7, zV k), (5, zV p), (4, zV le), (3, zV pl), (0, .ref m), (1, zV z1)]) ho d_MO_run_94 (by decide) rfl ?_
                    refine x_iload ho 2 d_MO_run_95 rfl ?_
                    refine x_iconst ho d_MO_run_97 ?_
                    refine x_iadd ho d_MO_run_98 ?_
                    refine x_iload ho 1 d_MO_run_99 rfl ?_
                    refine x_isub ho d_MO_run_101 ?_
                    refine x_istore_n (L' := [(3, zV ((k + 1) - 0)), (2, zV p), (6, zV 0), (7, zV k), (5, zV p), (4, zV le), (0, .ref m), (1, zV z1)]) ho d_MO_run_102 (by decide) rfl ?_
                    refine x_iload ho 2 d_MO_run_103 rfl ?_
                    refine x_iload ho 4 d_MO_run_105 rfl ?_
                    refine x_iadd ho d_MO_run_107 ?_
                    refine x_istore (L' := [(4, zV (0 + p)), (3, zV ((k + 1) - 0)), (2, zV p), (6, zV 0), (7, zV k), (5, zV p), (0, .ref m), (1, zV z1)]) ho d_MO_run_108 (by decide) rfl ?_
                    refine x_iinc (L' := [(7, zV (k + 1)), (4, zV (0 + p)), (3, zV ((k + 1) - 0)), (2, zV p), (6, zV 0), (5, zV p), (0, .ref m), (1, zV z1)]) ho 4 d_MO_run_110 rfl rfl (by decide) rfl ?_
                    refine x_goto (tgt := 37) ho d_MO_run_113 (by decide) ?_
                    refine x_sub (L' := [(7, zV (k + 1)), (6, zV 0), (5, zV p), (4, zV (0 + p)), (3, zV ((k + 1) - 0)), (2, zV p), (0, .ref m), (1, zV z1)]) [0, 4, 5, 1, 2, 3, 6, 7] rfl ?_
                    exact ih_37 (k + 1) 0 p ((k + 1) - 0) (0 + p) (by omega) (by omega) (by omega) (by rw [grI_k k0.1 hI]; exact (mg_b c_64 c_89).symm) (by omega)
                ·
                  refine x_iload ho 1 d_MO_run_67 rfl ?_
                  refine x_iconst ho d_MO_run_69 ?_
                  refine x_iadd ho d_MO_run_70 ?_
                  refine x_goto (tgt := 75) ho d_MO_run_71 (by decide) ?_
                  refine x_istore (L' := [(6, zV (r + 1)), (7, zV k), (5, zV p), (4, zV le), (3, zV pl), (2, zV pe), (0, .ref m), (1, zV z1)]) ho d_MO_run_75 (by decide) rfl ?_
                  refine x_iload ho 0 d_MO_run_77 rfl ?_
                  refine x_iload ho 2 d_MO_run_79 rfl ?_
                  refine x_iadd ho d_MO_run_81 ?_
                  refine x_iload_n ho 5 d_MO_run_82 rfl ?_
                  refine x_imul ho d_MO_run_83 ?_
                  refine x_iload ho 3 d_MO_run_84 rfl ?_
                  refine x_iload ho 2 d_MO_run_86 rfl ?_
                  refine x_imul ho d_MO_run_88 ?_
                  refine x_icmp_le (tgt := 110) ho d_MO_run_89 (by decide) (by have h1 := mul_9 (a := r + 1 + p) (b := pe) ⟨by omega, by omega⟩ ⟨by omega, by omega⟩; omega) (by have h1 := mul_9 (a := le) (b := p) ⟨by omega, by omega⟩ ⟨by omega, by omega⟩; omega) (fun c_89 => ?_) (fun c_89 => ?_)
                  ·
                    refine x_iinc (L' := [(7, zV (k + 1)), (6, zV (r + 1)), (5, zV p), (4, zV le), (3, zV pl), (2, zV pe), (0, .ref m), (1, zV z1)]) ho 1 d_MO_run_110 rfl rfl (by decide) rfl ?_
                    refine x_goto (tgt := 37) ho d_MO_run_113 (by decide) ?_
                    exact ih_37 (k + 1) (r + 1) pe pl le (by omega) (by omega) (by omega) (by rw [grI_k k0.1 hI]; exact (mg_c c_64 c_89).symm) (by omega)
                  ·
                    refine x_iload ho 2 d_MO_run_92 rfl ?_
                    refine x_istore_n (L' := [(2, zV p), (6, zV (r + 1)), (7, zV k), (5, zV p), (4, zV le), (3, zV pl), (0, .ref m), (1, zV z1)]) ho d_MO_run_94 (by decide) rfl ?_
                    refine x_iload ho 2 d_MO_run_95 rfl ?_
                    refine x_iconst ho d_MO_run_97 ?_
                    refine x_iadd ho d_MO_run_98 ?_
                    refine x_iload ho 1 d_MO_run_99 rfl ?_
                    refine x_isub ho d_MO_run_101 ?_
                    refine x_istore_n (L' := [(3, zV ((k + 1) - (r + 1))), (2, zV p), (6, zV (r + 1)), (7, zV k), (5, zV p), (4, zV le), (0, .ref m), (1, zV z1)]) ho d_MO_run_102 (by decide) rfl ?_
                    refine x_iload ho 2 d_MO_run_103 rfl ?_
                    refine x_iload ho 4 d_MO_run_105 rfl ?_
                    refine x_iadd ho d_MO_run_107 ?_
                    refine x_istore (L' := [(4, zV ((r + 1) + p)), (3, zV ((k + 1) - (r + 1))), (2, zV p), (6, zV (r + 1)), (7, zV k), (5, zV p), (0, .ref m), (1, zV z1)]) ho d_MO_run_108 (by decide) rfl ?_
                    refine x_iinc (L' := [(7, zV (k + 1)), (4, zV ((r + 1) + p)), (3, zV ((k + 1) - (r + 1))), (2, zV p), (6, zV (r + 1)), (5, zV p), (0, .ref m), (1, zV z1)]) ho 4 d_MO_run_110 rfl rfl (by decide) rfl ?_
                    refine x_goto (tgt := 37) ho d_MO_run_113 (by decide) ?_
                    refine x_sub (L' := [(7, zV (k + 1)), (6, zV (r + 1)), (5, zV p), (4, zV ((r + 1) + p)), (3, zV ((k + 1) - (r + 1))), (2, zV p), (0, .ref m), (1, zV z1)]) [0, 4, 5, 1, 2, 3, 6, 7] rfl ?_
                    exact ih_37 (k + 1) (r + 1) p ((k + 1) - (r + 1)) ((r + 1) + p) (by omega) (by omega) (by omega) (by rw [grI_k k0.1 hI]; exact (mg_d c_64 c_89).symm) (by omega)
          exact loop_37 _ 0 0 pe pl le (by omega) (by omega) (by omega) (by rw [← hO]; rfl) (Nat.lt_succ_self _)
    exact loop_22 _ 1 1 0 1 (by omega) (by omega) (by rfl) (Nat.lt_succ_self _)
  ·
    refine x_bipush (z := (-2)) ho d_MO_run_9 (by decide) ?_
    refine x_iret ho hr d_MO_run_11 ?_
    exact ⟨rI (by unfold r_run; rw [cif_f (c_6)]), isO_mk a_o a_n a_h a_s a_t a_b a_p a_u a_x a_c a_e a_y a_k⟩
def q_MO_mirrored (D : GG) (m : Nat) (V : WV) (z1 : Int) : Option Value → Heap → Prop := fun v0 H => v0 = some (zV (r_mirrored z1 V)) ∧ isO D H m V
theorem yv_MO_mirrored : Yv y_MO_mirrored b_MO_mirrored 6 (Option.some FieldType.int) 1 := ⟨g_1012, g_65, by decide, by decide +kernel⟩
set_option maxHeartbeats 4000000 in
set_option maxRecDepth 100000 in
theorem c_MO_mirrored (l0 : Launch) (D : GG) (m : Nat) (V : WV) (z1 : Int) (hz1 : -2147483648 ≤ z1 ∧ z1 ≤ 2147483647) : Ct l0 D y_MO_mirrored b_MO_mirrored 6 (Option.some FieldType.int) ({ frames := 2, cells := 0, slots := 0, locals := 45 } : Room) [.ref m, zV z1] (fun H => isO D H m V) (rA m (m + 12)) 0 0 (q_MO_mirrored D m V z1) := by
  refine Ct.of (L := [(0, .ref m), (1, zV z1)]) (by decide) (Nat.le_of_ble_eq_true rfl) rfl (fun M H ho hr hnm hH hpre => ?_)
  have hW := hpre
  obtain ⟨o_fo, o_di, o_az, o_t, o_b, o_p, o_u, o_c, o_e, o_y, a_o, a_n, a_h, a_s, a_t, a_b, a_p, a_u, a_x, a_c, a_e, a_y, a_k⟩ := id hW
  have n_o := a_n.ok
  have n_1 := n_o.1
  have n_2 := n_o.2.1
  have n_3 := n_o.2.2
  have h_b := a_h.b
  refine x_iload_n ho 1 d_MO_mirrored_0 rfl ?_
  refine x_iconst ho d_MO_mirrored_1 ?_
  refine x_iconst ho d_MO_mirrored_2 ?_
  refine x_callS (rest := []) ho d_MO_mirrored_3 yv_MO_in g_823 g_822 (c_MO_in M.2.1 D z1 0 1 (by omega) (by omega) (by omega)) rfl rfl ⟨Nat.le_of_ble_eq_true rfl, Nat.le_of_ble_eq_true rfl⟩ ⟨Nat.le_of_ble_eq_true rfl, Nat.le_of_ble_eq_true rfl⟩ rfl rfl (Nat.le_of_ble_eq_true rfl) trivial fr_none' (x_rd (fun v_1 hv_1 => ?_))
  obtain rfl := hv_1
  show X _ _ _ _ _ _ _ _ _ [zV (bI (0 ≤ z1 ∧ z1 ≤ 1))] _
  refine x_if_neB (tgt := 12) ho d_MO_mirrored_6 (by decide) (fun c_6 => ?_) (fun c_6 => ?_)
  ·
    refine x_iconst ho d_MO_mirrored_12 ?_
    refine x_istore_n (L' := [(2, zV 0), (0, .ref m), (1, zV z1)]) ho d_MO_mirrored_13 (by decide) rfl ?_
    refine x_iconst ho d_MO_mirrored_14 ?_
    refine x_istore_n (L' := [(3, zV 1), (2, zV 0), (0, .ref m), (1, zV z1)]) ho d_MO_mirrored_15 (by decide) rfl ?_
    refine x_iconst ho d_MO_mirrored_16 ?_
    refine x_istore (L' := [(4, zV 0), (3, zV 1), (2, zV 0), (0, .ref m), (1, zV z1)]) ho d_MO_mirrored_17 (by decide) rfl ?_
    have loop_19 : ∀ (kk : Nat) (p : Int) (pl : Int) (le : Int) (p0 : 0 ≤ p ∧ p ≤ (V.1.2.1.length : Int)) (b0 : 1 ≤ le ∧ 0 ≤ pl ∧ pl + le ≤ (V.1.2.1.length : Int) ∧ pl ≤ p) (hM : mir V.1.2.1 pl le) (hA : ∀ a s : Int, 0 ≤ a → a < p → 1 ≤ s → a + s ≤ (V.1.2.1.length : Int) → mir V.1.2.1 a s → s ≤ le ∧ (s = le → pl ≤ a)), ((V.1.2.1.length : Int) - p).toNat < kk → X M ({ frames := 2, cells := 0, slots := 0, locals := 45 } : Room) 6 (rA m (m + 12)) 0 0 (Qof M (rA m (m + 12)) (q_MO_mirrored D m V z1) 0 0) 19 [(4, zV p), (3, zV le), (2, zV pl), (0, .ref m), (1, zV z1)] [] H := by
      intro kk
      induction kk with
      | zero => intro p pl le p0 b0 hM hA hk; exact absurd hk (Nat.not_lt_zero _)
      | succ kk ih_19 =>
        intro p pl le p0 b0 hM hA hk_19
        refine x_iload ho 0 d_MO_mirrored_19 rfl ?_
        refine x_aload_n ho 3 d_MO_mirrored_21 rfl ?_
        refine x_callV (rest := [zV p]) ho d_MO_mirrored_22 yv_MO_length g_862 g_31 g_861 (c_MO_length M.2.1 D m ((V.2.2.2.1.length : Int)) V.2.2.1 o_fo o_di ((V.2.2.2.2.length : Int)) o_az V.1 ) rfl rfl ⟨Nat.le_of_ble_eq_true rfl, Nat.le_of_ble_eq_true rfl⟩ ⟨Nat.le_of_ble_eq_true rfl, Nat.le_of_ble_eq_true rfl⟩ rfl rfl (Nat.le_of_ble_eq_true rfl) a_o rfl rfl ⟨a_o, a_n⟩ fr_none' (x_rd (fun v_3 hv_3 => ?_))
        obtain ⟨rfl, lb_5⟩ := hv_3
        show X _ _ _ _ _ _ _ _ _ [zV ((V.1.2.1.length : Int)), zV p] _
        refine x_icmp_ge (tgt := 74) ho d_MO_mirrored_25 (by decide) (by omega) (by omega) (fun c_25 => ?_) (fun c_25 => ?_)
        ·
          have hbe : bestM V.1.2.1 pl le := ⟨b0.1, b0.2.1, b0.2.2.1, hM, fun a s h1 h2 h3 h4 => hA a s h1 (by omega) h2 h3 h4⟩
          have hmv := mrV_e hbe
          refine x_iload_n ho 4 d_MO_mirrored_74 rfl ?_
          refine x_if_ne (tgt := 82) ho d_MO_mirrored_75 (by decide) (by omega) (fun c_75 => ?_) (fun c_75 => ?_)
          ·
            refine x_iload_n ho 1 d_MO_mirrored_82 rfl ?_
            refine x_iret ho hr d_MO_mirrored_83 ?_
            exact ⟨rI (by unfold r_mirrored; rw [cif_t (c_6), cif_f (by omega)]; exact hmv.2.symm), isO_mk a_o a_n a_h a_s a_t a_b a_p a_u a_x a_c a_e a_y a_k⟩
          ·
            refine x_iload_n ho 2 d_MO_mirrored_78 rfl ?_
            refine x_goto (tgt := 83) ho d_MO_mirrored_79 (by decide) ?_
            refine x_iret ho hr d_MO_mirrored_83 ?_
            exact ⟨rI (by unfold r_mirrored; rw [cif_t (c_6), cif_t (by omega)]; exact hmv.1.symm), isO_mk a_o a_n a_h a_s a_t a_b a_p a_u a_x a_c a_e a_y a_k⟩
        ·
          refine x_iload_n ho 1 d_MO_mirrored_28 rfl ?_
          refine x_iconst ho d_MO_mirrored_29 ?_
          refine x_iadd ho d_MO_mirrored_30 ?_
          refine x_istore (L' := [(5, zV (le + 1)), (4, zV p), (3, zV le), (2, zV pl), (0, .ref m), (1, zV z1)]) ho d_MO_mirrored_31 (by decide) rfl ?_
          have loop_33 : ∀ (kk : Nat) (n : Int) (pl : Int) (le : Int) (n0 : le + 1 ≤ n ∧ n ≤ (V.1.2.1.length : Int) + 1 + le) (b0 : 1 ≤ le ∧ 0 ≤ pl ∧ pl + le ≤ (V.1.2.1.length : Int) ∧ pl ≤ p) (hM : mir V.1.2.1 pl le) (hA : ∀ a s : Int, 0 ≤ a → a < p → 1 ≤ s → a + s ≤ (V.1.2.1.length : Int) → mir V.1.2.1 a s → s ≤ le ∧ (s = le → pl ≤ a)) (hB : ∀ s : Int, 1 ≤ s → s < n → p + s ≤ (V.1.2.1.length : Int) → mir V.1.2.1 p s → s ≤ le ∧ (s = le → pl ≤ p)), ((V.1.2.1.length : Int) + 1 - n).toNat < kk → X M ({ frames := 2, cells := 0, slots := 0, locals := 45 } : Room) 6 (rA m (m + 12)) 0 0 (Qof M (rA m (m + 12)) (q_MO_mirrored D m V z1) 0 0) 33 [(5, zV n), (4, zV p), (3, zV le), (2, zV pl), (0, .ref m), (1, zV z1)] [] H := by
            intro kk
            induction kk with
            | zero => intro n pl le n0 b0 hM hA hB hk; exact absurd hk (Nat.not_lt_zero _)
            | succ kk ih_33 =>
              intro n pl le n0 b0 hM hA hB hk_33
              refine x_iload ho 1 d_MO_mirrored_33 rfl ?_
              refine x_iload ho 0 d_MO_mirrored_35 rfl ?_
              refine x_iadd ho d_MO_mirrored_37 ?_
              refine x_aload_n ho 4 d_MO_mirrored_38 rfl ?_
              refine x_callV (rest := [zV (p + n)]) ho d_MO_mirrored_39 yv_MO_length g_862 g_31 g_861 (c_MO_length M.2.1 D m ((V.2.2.2.1.length : Int)) V.2.2.1 o_fo o_di ((V.2.2.2.2.length : Int)) o_az V.1 ) rfl rfl ⟨Nat.le_of_ble_eq_true rfl, Nat.le_of_ble_eq_true rfl⟩ ⟨Nat.le_of_ble_eq_true rfl, Nat.le_of_ble_eq_true rfl⟩ rfl rfl (Nat.le_of_ble_eq_true rfl) a_o rfl rfl ⟨a_o, a_n⟩ fr_none' (x_rd (fun v_6 hv_6 => ?_))
              obtain ⟨rfl, lb_8⟩ := hv_6
              show X _ _ _ _ _ _ _ _ _ [zV ((V.1.2.1.length : Int)), zV (p + n)] _
              refine x_icmp_gt (tgt := 68) ho d_MO_mirrored_42 (by decide) (by omega) (by omega) (fun c_42 => ?_) (fun c_42 => ?_)
              ·
                refine x_iinc (L' := [(4, zV (p + 1)), (5, zV n), (3, zV le), (2, zV pl), (0, .ref m), (1, zV z1)]) ho 1 d_MO_mirrored_68 rfl rfl (by decide) rfl ?_
                refine x_goto (tgt := 19) ho d_MO_mirrored_71 (by decide) ?_
                refine x_sub (L' := [(4, zV (p + 1)), (3, zV le), (2, zV pl), (0, .ref m), (1, zV z1)]) [0, 2, 3, 4, 5] rfl ?_
                exact ih_19 (p + 1) pl le (by omega) (by omega) (by exact hM) (by intro a s h1 h2 h3 h4 h5; rcases (show a < p ∨ a = p by omega) with z | z; exact hA a s h1 z h3 h4 h5; rw [z] at h4 h5 ⊢; exact hB s h3 (by omega) h4 h5) (by omega)
              ·
                refine x_aload_n ho 4 d_MO_mirrored_45 rfl ?_
                refine x_iload ho 1 d_MO_mirrored_46 rfl ?_
                refine x_iload ho 0 d_MO_mirrored_48 rfl ?_
                refine x_callV (rest := []) ho d_MO_mirrored_50 yv_MO_isMirrored g_983 g_48 g_982 (c_MO_isMirrored M.2.1 D m ((V.2.2.2.1.length : Int)) V.2.2.1 o_fo o_di ((V.2.2.2.2.length : Int)) o_az V.1 p n (by omega) (by omega)) rfl rfl ⟨Nat.le_of_ble_eq_true rfl, Nat.le_of_ble_eq_true rfl⟩ ⟨Nat.le_of_ble_eq_true rfl, Nat.le_of_ble_eq_true rfl⟩ rfl rfl (Nat.le_of_ble_eq_true rfl) a_o rfl rfl ⟨a_o, a_n⟩ fr_none' (x_rd (fun v_9 hv_9 => ?_))
                obtain rfl := hv_9
                show X _ _ _ _ _ _ _ _ _ [zV (bI (mir V.1.2.1 p n))] _
                refine x_if_eqB (tgt := 62) ho d_MO_mirrored_53 (by decide) (fun c_53 => ?_) (fun c_53 => ?_)
                ·
                  refine x_iinc (L' := [(5, zV (n + 1)), (4, zV p), (3, zV le), (2, zV pl), (0, .ref m), (1, zV z1)]) ho 0 d_MO_mirrored_62 rfl rfl (by decide) rfl ?_
                  refine x_goto (tgt := 33) ho d_MO_mirrored_65 (by decide) ?_
                  exact ih_33 (n + 1) pl le (by omega) (by omega) (by exact hM) (by exact hA) (by intro s h1 h2 h3 h4; rcases (show s < n ∨ s = n by omega) with z | z; exact hB s h1 z h3 h4; rw [z] at h4; exact absurd h4 c_53) (by omega)
                ·
                  refine x_iload ho 1 d_MO_mirrored_56 rfl ?_
                  refine x_istore_n (L' := [(2, zV p), (5, zV n), (4, zV p), (3, zV le), (0, .ref m), (1, zV z1)]) ho d_MO_mirrored_58 (by decide) rfl ?_
                  refine x_iload ho 1 d_MO_mirrored_59 rfl ?_
                  refine x_istore_n (L' := [(3, zV n), (2, zV p), (5, zV n), (4, zV p), (0, .ref m), (1, zV z1)]) ho d_MO_mirrored_61 (by decide) rfl ?_
                  refine x_iinc (L' := [(5, zV (n + 1)), (3, zV n), (2, zV p), (4, zV p), (0, .ref m), (1, zV z1)]) ho 2 d_MO_mirrored_62 rfl rfl (by decide) rfl ?_
                  refine x_goto (tgt := 33) ho d_MO_mirrored_65 (by decide) ?_
                  refine x_sub (L' := [(5, zV (n + 1)), (4, zV p), (3, zV n), (2, zV p), (0, .ref m), (1, zV z1)]) [0, 3, 1, 2, 4, 5] rfl ?_
                  exact ih_33 (n + 1) p n (by omega) (by omega) (by exact c_53) (by intro a s h1 h2 h3 h4 h5; have := hA a s h1 h2 h3 h4 h5; omega) (by intro s h1 h2 h3 h4; omega) (by omega)
          exact loop_33 _ (le + 1) pl le (by omega) (by omega) (by exact hM) (by exact hA) (by exact fun s h1 h2 h3 h4 => by omega) (Nat.lt_succ_self _)
    exact loop_19 _ 0 0 1 (by omega) (by omega) (by exact mir_1) (by exact fun a s h1 h2 => by omega) (Nat.lt_succ_self _)
  ·
    refine x_bipush (z := (-2)) ho d_MO_mirrored_9 (by decide) ?_
    refine x_iret ho hr d_MO_mirrored_11 ?_
    exact ⟨rI (by unfold r_mirrored; rw [cif_f (c_6)]), isO_mk a_o a_n a_h a_s a_t a_b a_p a_u a_x a_c a_e a_y a_k⟩
