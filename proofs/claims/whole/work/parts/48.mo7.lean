def q_MO_returns (D : GG) (m : Nat) (V : WV) (z1 : Int) (z2 : Int) : Option Value → Heap → Prop := fun v0 H => v0 = some (zV (r_returns z1 z2 V)) ∧ isO D H m V
theorem yv_MO_returns : Yv y_MO_returns b_MO_returns 6 (Option.some FieldType.int) 2 := ⟨g_1020, g_65, by decide, by decide +kernel⟩
set_option maxHeartbeats 4000000 in
set_option maxRecDepth 100000 in
theorem c_MO_returns (l0 : Launch) (D : GG) (m : Nat) (V : WV) (z1 : Int) (z2 : Int) (hz1 : -2147483648 ≤ z1 ∧ z1 ≤ 2147483647) (hz2 : -2147483648 ≤ z2 ∧ z2 ≤ 2147483647) : Ct l0 D y_MO_returns b_MO_returns 6 (Option.some FieldType.int) ({ frames := 3, cells := 0, slots := 0, locals := 67 } : Room) [.ref m, zV z1, zV z2] (fun H => isO D H m V) (rA m (m + 12)) 0 0 (q_MO_returns D m V z1 z2) := by
  refine Ct.of (L := [(0, .ref m), (1, zV z1), (2, zV z2)]) (by decide) (Nat.le_of_ble_eq_true rfl) rfl (fun M H ho hr hnm hH hpre => ?_)
  have hW := hpre
  obtain ⟨o_fo, o_di, o_az, o_t, o_b, o_p, o_u, o_c, o_e, o_y, a_o, a_n, a_h, a_s, a_t, a_b, a_p, a_u, a_x, a_c, a_e, a_y, a_k⟩ := id hW
  have n_o := a_n.ok
  have n_1 := n_o.1
  have n_2 := n_o.2.1
  have n_3 := n_o.2.2
  have h_b := a_h.b
  refine x_iload_n ho 1 d_MO_returns_0 rfl ?_
  refine x_if_lt (tgt := 13) ho d_MO_returns_1 (by decide) (by omega) (fun c_1 => ?_) (fun c_1 => ?_)
  ·
    have z_5 : z1 < 0 ∨ ¬ (0 ≤ z2 ∧ z2 ≤ 2) := Or.inl c_1
    refine x_bipush (z := (-2)) ho d_MO_returns_13 (by decide) ?_
    refine x_iret ho hr d_MO_returns_15 ?_
    exact ⟨rI (by unfold r_returns; rw [cif_t (z_5)]), isO_mk a_o a_n a_h a_s a_t a_b a_p a_u a_x a_c a_e a_y a_k⟩
  ·
    refine x_iload_n ho 2 d_MO_returns_4 rfl ?_
    refine x_iconst ho d_MO_returns_5 ?_
    refine x_iconst ho d_MO_returns_6 ?_
    refine x_callS (rest := []) ho d_MO_returns_7 yv_MO_in g_823 g_822 (c_MO_in M.2.1 D z2 0 2 (by omega) (by omega) (by omega)) rfl rfl ⟨Nat.le_of_ble_eq_true rfl, Nat.le_of_ble_eq_true rfl⟩ ⟨Nat.le_of_ble_eq_true rfl, Nat.le_of_ble_eq_true rfl⟩ rfl rfl (Nat.le_of_ble_eq_true rfl) trivial fr_none' (x_rd (fun v_1 hv_1 => ?_))
    obtain rfl := hv_1
    show X _ _ _ _ _ _ _ _ _ [zV (bI (0 ≤ z2 ∧ z2 ≤ 2))] _
    refine x_if_neB (tgt := 16) ho d_MO_returns_10 (by decide) (fun c_10 => ?_) (fun c_10 => ?_)
    ·
      obtain ⟨g_f, g_a, g_r, g_p⟩ := id a_n
      have z_5 : ¬ (z1 < 0 ∨ ¬ (0 ≤ z2 ∧ z2 ≤ 2)) := by omega
      refine x_aload_n ho 0 d_MO_returns_16 rfl ?_
      refine x_get 0 ho d_MO_returns_17 cl_MO (by decide) g_757 a_o rfl ?_
      refine x_sipush (z := 337) ho d_MO_returns_20 (by decide) ?_
      refine x_iald ho d_MO_returns_23 g_a (by omega) (by omega) (by omega) ?_
      refine x_eqI (b := (V.1.2.2.length : Int)) (by exact g_r.2.2.1) ?_
      refine x_if_ne (tgt := 30) ho d_MO_returns_24 (by decide) (by omega) (fun c_24 => ?_) (fun c_24 => ?_)
      ·
        refine x_aload_n ho 0 d_MO_returns_30 rfl ?_
        refine x_callV (rest := []) ho d_MO_returns_31 yv_MO_finds g_896 g_37 g_895 (c_MO_finds M.2.1 D m ((V.2.2.2.1.length : Int)) V.2.2.1 o_fo o_di ((V.2.2.2.2.length : Int)) o_az V.1 o_p o_u ) rfl rfl ⟨Nat.le_of_ble_eq_true rfl, Nat.le_of_ble_eq_true rfl⟩ ⟨Nat.le_of_ble_eq_true rfl, Nat.le_of_ble_eq_true rfl⟩ rfl rfl (Nat.le_of_ble_eq_true rfl) a_o rfl rfl ⟨a_o, a_n, a_p, a_u⟩ (fun z hz => by rcases hz with ⟨z1, z2⟩ | ⟨z1, z2⟩ <;> exact rA_in (by omega) (by omega)) (fun v_3 H_5 hv_3 f_4 => ?_)
        have k_6 := a_h.kept (f_4.2 _ a_h.lt (fun z => by rcases z with ⟨z1, z2⟩ | ⟨z1, z2⟩ <;> omega))
        have k_7 := a_s.kept (f_4.2 _ a_s.lt (fun z => by rcases z with ⟨z1, z2⟩ | ⟨z1, z2⟩ <;> omega))
        have k_8 := a_t.kept (f_4.2 _ a_t.lt (fun z => by rcases z with ⟨z1, z2⟩ | ⟨z1, z2⟩ <;> omega))
        have k_9 := a_b.kept (f_4.2 _ a_b.lt (fun z => by rcases z with ⟨z1, z2⟩ | ⟨z1, z2⟩ <;> omega))
        have k_10 := a_x.kept (f_4.2 _ a_x.lt (fun z => by rcases z with ⟨z1, z2⟩ | ⟨z1, z2⟩ <;> omega))
        have k_11 := a_c.kept (f_4.2 _ a_c.lt (fun z => by rcases z with ⟨z1, z2⟩ | ⟨z1, z2⟩ <;> omega))
        have k_12 := a_e.kept (f_4.2 _ a_e.lt (fun z => by rcases z with ⟨z1, z2⟩ | ⟨z1, z2⟩ <;> omega))
        have k_13 := a_y.kept (f_4.2 _ a_y.lt (fun z => by rcases z with ⟨z1, z2⟩ | ⟨z1, z2⟩ <;> omega))
        obtain ⟨p1_14, u1_15, rfl, hb_16, hp_17, hu_18, t_o_19, t_n_20, t_p_21, t_u_22⟩ := hv_3
        show X _ _ _ _ _ _ _ _ _ [zV (((aos V.1.2.1 V.1.2.2).length : Int))] _
        have hos : osW V = aos V.1.2.1 V.1.2.2 := aos_ocs (ne_nil c_24)
        have hrl := rl_e (os := aos V.1.2.1 V.1.2.2)
        have hbb := hb_16
        have hpp := hp_17
        have huu := hu_18
        have hro : roW V = roo V.1.2.1 (aos V.1.2.1 V.1.2.2) := by unfold roW; rw [hos]
        have hfi : fiW V = fir V.1.2.1 (aos V.1.2.1 V.1.2.2) := by unfold fiW; rw [hos]
        have hrn := roo_len V.1.2.1 (aos V.1.2.1 V.1.2.2)
        have hRB := roo_nb V.1.2.1 (aos V.1.2.1 V.1.2.2)
        have hfl := fir_len V.1.2.1 (aos V.1.2.1 V.1.2.2)
        refine x_pop ho d_MO_returns_34 rfl ?_
        refine x_bipush (z := (-5)) ho d_MO_returns_35 (by decide) ?_
        refine x_istore_n (L' := [(3, zV (-5)), (0, .ref m), (1, zV z1), (2, zV z2)]) ho d_MO_returns_37 (by decide) rfl ?_
        refine x_iconst ho d_MO_returns_38 ?_
        refine x_istore (L' := [(4, zV 0), (3, zV (-5)), (0, .ref m), (1, zV z1), (2, zV z2)]) ho d_MO_returns_39 (by decide) rfl ?_
        refine x_aload_n ho 2 d_MO_returns_41 rfl ?_
        refine x_get 8 ho d_MO_returns_42 cl_MO (by decide) g_765 t_o_19 rfl ?_
        refine x_iconst ho d_MO_returns_45 ?_
        refine x_isub ho d_MO_returns_46 ?_
        refine x_istore (L' := [(5, zV ((((aos V.1.2.1 V.1.2.2).length : Int)) - 2)), (4, zV 0), (3, zV (-5)), (0, .ref m), (1, zV z1), (2, zV z2)]) ho d_MO_returns_47 (by decide) rfl ?_
        have loop_49 : ∀ (kk : Nat) (k : Int) (f : Int) (n : Int) (k0 : -2 ≤ k ∧ k + 1 ≤ rl (aos V.1.2.1 V.1.2.2)) (n0 : 0 ≤ n ∧ n + k ≤ 300) (hf : (f = -5 ∧ ∀ i : Int, 0 ≤ i → k < i → i < rl (aos V.1.2.1 V.1.2.2) → ¬ gA (roo V.1.2.1 (aos V.1.2.1 V.1.2.2)) i = z1) ∨ ((0 ≤ f ∧ k < f) ∧ f < rl (aos V.1.2.1 V.1.2.2) ∧ gA (roo V.1.2.1 (aos V.1.2.1 V.1.2.2)) f = z1 ∧ ∀ i : Int, k < i → i < f → ¬ gA (roo V.1.2.1 (aos V.1.2.1 V.1.2.2)) i = z1)) (hn : n = cn ((roo V.1.2.1 (aos V.1.2.1 V.1.2.2)).drop (k + 1).toNat) z1), (k + 1).toNat < kk → X M ({ frames := 3, cells := 0, slots := 0, locals := 67 } : Room) 6 (rA m (m + 12)) 0 0 (Qof M (rA m (m + 12)) (q_MO_returns D m V z1 z2) 0 0) 49 [(5, zV k), (4, zV n), (3, zV f), (0, .ref m), (1, zV z1), (2, zV z2)] [] H_5 := by
          intro kk
          induction kk with
          | zero => intro k f n k0 n0 hf hn hk; exact absurd hk (Nat.not_lt_zero _)
          | succ kk ih_49 =>
            intro k f n k0 n0 hf hn hk_49
            refine x_iload ho 0 d_MO_returns_49 rfl ?_
            refine x_if_lt (tgt := 99) ho d_MO_returns_51 (by decide) (by omega) (fun c_51 => ?_) (fun c_51 => ?_)
            ·
              have hfr : f = -5 ∨ (0 ≤ f ∧ f < rl (aos V.1.2.1 V.1.2.2)) := by rcases hf with h | h; exact Or.inl h.1; exact Or.inr ⟨h.1.1, h.2.1⟩
              refine x_iload_n ho 2 d_MO_returns_99 rfl ?_
              refine x_bipush (z := (-5)) ho d_MO_returns_100 (by decide) ?_
              refine x_icmp_ne (tgt := 108) ho d_MO_returns_102 (by decide) (by omega) (by omega) (fun c_102 => ?_) (fun c_102 => ?_)
              ·
                have hff : (0 ≤ z1 ∧ z1 < ((fir V.1.2.1 (aos V.1.2.1 V.1.2.2)).length : Int)) ∧ gA (fir V.1.2.1 (aos V.1.2.1 V.1.2.2)) z1 = f := by rcases hf with h | h; omega; exact fir_e (by omega) h.2.1 h.2.2.1 (fun i a b => h.2.2.2 i (by omega) b)
                have hlt : z1 < ((fiW V).length : Int) := by rw [hfi]; exact hff.1.2
                refine x_iload_n ho 5 d_MO_returns_108 rfl ?_
                refine x_if_ne (tgt := 120) ho d_MO_returns_109 (by decide) (by omega) (fun c_109 => ?_) (fun c_109 => ?_)
                ·
                  refine x_iload_n ho 5 d_MO_returns_120 rfl ?_
                  refine x_iconst ho d_MO_returns_121 ?_
                  refine x_icmp_ne (tgt := 134) ho d_MO_returns_122 (by decide) (by omega) (by omega) (fun c_122 => ?_) (fun c_122 => ?_)
                  ·
                    refine x_iload ho 1 d_MO_returns_134 rfl ?_
                    refine x_iret ho hr d_MO_returns_136 ?_
                    exact ⟨rI (by unfold r_returns; rw [cif_f (z_5), cif_t (by omega), cif_t (hlt), cif_f (by omega), cif_f (by omega)]; rw [hro, hn, show (k + 1).toNat = 0 by omega]; rfl), isO_mk t_o_19 t_n_20 k_6 k_7 k_8 k_9 t_p_21 t_u_22 k_10 k_11 k_12 k_13 a_k⟩
                  ·
                    refine x_aload_n ho 3 d_MO_returns_125 rfl ?_
                    refine x_get 7 ho d_MO_returns_126 cl_MO (by decide) g_764 t_o_19 rfl ?_
                    refine x_iload_n ho 2 d_MO_returns_129 rfl ?_
                    refine x_iald ho d_MO_returns_130 t_p_21 (by omega) (by omega) (by omega) ?_
                    refine x_eqI (b := gA (aos V.1.2.1 V.1.2.2) f) (by exact hpp f (by omega) (by omega)) ?_
                    refine x_goto (tgt := 136) ho d_MO_returns_131 (by decide) ?_
                    refine x_iret ho hr d_MO_returns_136 ?_
                    exact ⟨rI (by unfold r_returns; rw [cif_f (z_5), cif_t (by omega), cif_t (hlt), cif_f (by omega), cif_t (by omega)]; rw [hos, hfi, hff.2]), isO_mk t_o_19 t_n_20 k_6 k_7 k_8 k_9 t_p_21 t_u_22 k_10 k_11 k_12 k_13 a_k⟩
                ·
                  refine x_aload_n ho 3 d_MO_returns_112 rfl ?_
                  refine x_iload_n ho 2 d_MO_returns_113 rfl ?_
                  refine x_callV (rest := []) ho d_MO_returns_114 yv_MO_gap g_905 g_40 g_904 (c_MO_gap M.2.1 D m ((V.2.2.2.1.length : Int)) V.2.2.1 (((aos V.1.2.1 V.1.2.2).length : Int)) (((fir V.1.2.1 (aos V.1.2.1 V.1.2.2)).length : Int)) ((V.2.2.2.2.length : Int)) o_az p1_14 (aos V.1.2.1 V.1.2.2) f (by exact hpp) (by exact fun j a b => by have := aos_m (L := V.1.2.1) (K := V.1.2.2) a b; omega) (by omega)) rfl rfl ⟨Nat.le_of_ble_eq_true rfl, Nat.le_of_ble_eq_true rfl⟩ ⟨Nat.le_of_ble_eq_true rfl, Nat.le_of_ble_eq_true rfl⟩ rfl rfl (Nat.le_of_ble_eq_true rfl) t_o_19 rfl rfl ⟨t_o_19, t_p_21⟩ fr_none' (x_rd (fun v_23 hv_23 => ?_))
                  obtain ⟨rfl, gb_25⟩ := hv_23
                  show X _ _ _ _ _ _ _ _ _ [zV (gap (aos V.1.2.1 V.1.2.2) f)] _
                  refine x_goto (tgt := 136) ho d_MO_returns_117 (by decide) ?_
                  refine x_iret ho hr d_MO_returns_136 ?_
                  exact ⟨rI (by unfold r_returns; rw [cif_f (z_5), cif_t (by omega), cif_t (hlt), cif_t (by omega)]; rw [hos, hfi, hff.2]), isO_mk t_o_19 t_n_20 k_6 k_7 k_8 k_9 t_p_21 t_u_22 k_10 k_11 k_12 k_13 a_k⟩
              ·
                have hnn : ¬ z1 < ((fir V.1.2.1 (aos V.1.2.1 V.1.2.2)).length : Int) := by rcases hf with h | h; exact fir_no (by omega) (fun i a b => h.2 i a (by omega) b); omega
                refine x_bipush (z := (-5)) ho d_MO_returns_105 (by decide) ?_
                refine x_iret ho hr d_MO_returns_107 ?_
                exact ⟨rI (by unfold r_returns; rw [cif_f (z_5), cif_t (by omega), cif_f (by rw [hfi]; exact hnn)]), isO_mk t_o_19 t_n_20 k_6 k_7 k_8 k_9 t_p_21 t_u_22 k_10 k_11 k_12 k_13 a_k⟩
            ·
              have hnk := gA_m hRB (z := k) (by omega) (by omega)
              have hcd := cn_drop (N := roo V.1.2.1 (aos V.1.2.1 V.1.2.2)) (k := k) (z := z1) (by omega) (by omega)
              refine x_aload_n ho 3 d_MO_returns_54 rfl ?_
              refine x_get 9 ho d_MO_returns_55 cl_MO (by decide) g_766 t_o_19 rfl ?_
              refine x_iload ho 0 d_MO_returns_58 rfl ?_
              refine x_iald ho d_MO_returns_60 t_u_22 (by omega) (by omega) (by omega) ?_
              refine x_eqI (b := gA (roo V.1.2.1 (aos V.1.2.1 V.1.2.2)) k) (by exact huu k (by omega) (by omega)) ?_
              refine x_iload_n ho 4 d_MO_returns_61 rfl ?_
              refine x_icmp_ne (tgt := 70) ho d_MO_returns_62 (by decide) (by omega) (by omega) (fun c_62 => ?_) (fun c_62 => ?_)
              ·
                refine x_iload_n ho 2 d_MO_returns_70 rfl ?_
                refine x_istore_n (L' := [(3, zV f), (5, zV k), (4, zV n), (0, .ref m), (1, zV z1), (2, zV z2)]) ho d_MO_returns_71 (by decide) rfl ?_
                refine x_iload ho 2 d_MO_returns_72 rfl ?_
                refine x_aload_n ho 3 d_MO_returns_74 rfl ?_
                refine x_get 9 ho d_MO_returns_75 cl_MO (by decide) g_766 t_o_19 rfl ?_
                refine x_iload ho 1 d_MO_returns_78 rfl ?_
                refine x_iald ho d_MO_returns_80 t_u_22 (by omega) (by omega) (by omega) ?_
                refine x_eqI (b := gA (roo V.1.2.1 (aos V.1.2.1 V.1.2.2)) k) (by exact huu k (by omega) (by omega)) ?_
                refine x_iload_n ho 4 d_MO_returns_81 rfl ?_
                refine x_icmp_ne (tgt := 89) ho d_MO_returns_82 (by decide) (by omega) (by omega) (fun c_82 => ?_) (fun c_82 => ?_)
                ·
                  refine x_iconst ho d_MO_returns_89 ?_
                  refine x_iadd ho d_MO_returns_90 ?_
                  refine x_istore (L' := [(4, zV (n + 0)), (3, zV f), (5, zV k), (0, .ref m), (1, zV z1), (2, zV z2)]) ho d_MO_returns_91 (by decide) rfl ?_
                  refine x_iinc (L' := [(5, zV (k + (-1))), (4, zV (n + 0)), (3, zV f), (0, .ref m), (1, zV z1), (2, zV z2)]) ho 2 d_MO_returns_93 rfl rfl (by decide) rfl ?_
                  refine x_goto (tgt := 49) ho d_MO_returns_96 (by decide) ?_
                  exact ih_49 (k + (-1)) f (n + 0) (by omega) (by omega) (by rcases hf with h | h; exact Or.inl ⟨h.1, fun i o a b => by rcases (show k < i ∨ i = k by omega) with z | z; exact h.2 i o z b; rw [z]; exact c_62⟩; exact Or.inr ⟨by omega, h.2.1, h.2.2.1, fun i a b => by rcases (show k < i ∨ i = k by omega) with z | z; exact h.2.2.2 i z b; rw [z]; exact c_62⟩) (by rw [show k + (-1) + 1 = k by omega, hcd, if_neg c_62, hn]) (by omega)
                ·
                  exact absurd c_82 c_62
              ·
                refine x_iload ho 0 d_MO_returns_65 rfl ?_
                refine x_goto (tgt := 71) ho d_MO_returns_67 (by decide) ?_
                refine x_istore_n (L' := [(3, zV k), (5, zV k), (4, zV n), (0, .ref m), (1, zV z1), (2, zV z2)]) ho d_MO_returns_71 (by decide) rfl ?_
                refine x_iload ho 2 d_MO_returns_72 rfl ?_
                refine x_aload_n ho 3 d_MO_returns_74 rfl ?_
                refine x_get 9 ho d_MO_returns_75 cl_MO (by decide) g_766 t_o_19 rfl ?_
                refine x_iload ho 1 d_MO_returns_78 rfl ?_
                refine x_iald ho d_MO_returns_80 t_u_22 (by omega) (by omega) (by omega) ?_
                refine x_eqI (b := gA (roo V.1.2.1 (aos V.1.2.1 V.1.2.2)) k) (by exact huu k (by omega) (by omega)) ?_
                refine x_iload_n ho 4 d_MO_returns_81 rfl ?_
                refine x_icmp_ne (tgt := 89) ho d_MO_returns_82 (by decide) (by omega) (by omega) (fun c_82 => ?_) (fun c_82 => ?_)
                ·
                  exact absurd c_62 c_82
                ·
                  refine x_iconst ho d_MO_returns_85 ?_
                  refine x_goto (tgt := 90) ho d_MO_returns_86 (by decide) ?_
                  refine x_iadd ho d_MO_returns_90 ?_
                  refine x_istore (L' := [(4, zV (n + 1)), (3, zV k), (5, zV k), (0, .ref m), (1, zV z1), (2, zV z2)]) ho d_MO_returns_91 (by decide) rfl ?_
                  refine x_iinc (L' := [(5, zV (k + (-1))), (4, zV (n + 1)), (3, zV k), (0, .ref m), (1, zV z1), (2, zV z2)]) ho 2 d_MO_returns_93 rfl rfl (by decide) rfl ?_
                  refine x_goto (tgt := 49) ho d_MO_returns_96 (by decide) ?_
                  exact ih_49 (k + (-1)) k (n + 1) (by omega) (by omega) (by exact Or.inr ⟨⟨by omega, by omega⟩, by omega, c_62, fun i a b => by omega⟩) (by rw [show k + (-1) + 1 = k by omega, hcd, if_pos c_62, hn]) (by omega)
        exact loop_49 _ ((((aos V.1.2.1 V.1.2.2).length : Int)) - 2) (-5) 0 (by omega) (by omega) (by exact Or.inl ⟨rfl, fun i o a b => by omega⟩) (by rw [List.drop_eq_nil_of_le (by omega)]; rfl) (Nat.lt_succ_self _)
      ·
        refine x_bipush (z := (-4)) ho d_MO_returns_27 (by decide) ?_
        refine x_iret ho hr d_MO_returns_29 ?_
        exact ⟨rI (by unfold r_returns; rw [cif_f (z_5), cif_f (by omega)]), isO_mk a_o a_n a_h a_s a_t a_b a_p a_u a_x a_c a_e a_y a_k⟩
    ·
      have z_5 : z1 < 0 ∨ ¬ (0 ≤ z2 ∧ z2 ≤ 2) := Or.inr c_10
      refine x_bipush (z := (-2)) ho d_MO_returns_13 (by decide) ?_
      refine x_iret ho hr d_MO_returns_15 ?_
      exact ⟨rI (by unfold r_returns; rw [cif_t (z_5)]), isO_mk a_o a_n a_h a_s a_t a_b a_p a_u a_x a_c a_e a_y a_k⟩
def q_MO_derive (D : GG) (m : Nat) (V : WV) : Option Value → Heap → Prop := fun v0 H => v0 = some (zV ((m_derive V).1)) ∧ isO D H m ((m_derive V).2)
theorem yv_MO_derive : Yv y_MO_derive b_MO_derive 2 (Option.some FieldType.int) 0 := ⟨g_894, g_65, by decide, by decide +kernel⟩
set_option maxHeartbeats 4000000 in
set_option maxRecDepth 100000 in
theorem c_MO_derive (l0 : Launch) (D : GG) (m : Nat) (V : WV)  : Ct l0 D y_MO_derive b_MO_derive 2 (Option.some FieldType.int) ({ frames := 3, cells := 0, slots := 0, locals := 67 } : Room) [.ref m] (fun H => isO D H m V) (rA m (m + 12)) 0 0 (q_MO_derive D m V) := by
  refine Ct.of (L := [(0, .ref m)]) (by decide) (Nat.le_of_ble_eq_true rfl) rfl (fun M H ho hr hnm hH hpre => ?_)
  have hW := hpre
  obtain ⟨o_fo, o_di, o_az, o_t, o_b, o_p, o_u, o_c, o_e, o_y, a_o, a_n, a_h, a_s, a_t, a_b, a_p, a_u, a_x, a_c, a_e, a_y, a_k⟩ := id hW
  have n_o := a_n.ok
  have n_1 := n_o.1
  have n_2 := n_o.2.1
  have n_3 := n_o.2.2
  have h_b := a_h.b
  obtain ⟨g_f, g_a, g_r, g_p⟩ := id a_n
  refine x_aload_n ho 0 d_MO_derive_0 rfl ?_
  refine x_get 0 ho d_MO_derive_1 cl_MO (by decide) g_757 a_o rfl ?_
  refine x_sipush (z := 337) ho d_MO_derive_4 (by decide) ?_
  refine x_iald ho d_MO_derive_7 g_a (by omega) (by omega) (by omega) ?_
  refine x_eqI (b := (V.1.2.2.length : Int)) (by exact g_r.2.2.1) ?_
  refine x_if_eq (tgt := 27) ho d_MO_derive_8 (by decide) (by omega) (fun c_8 => ?_) (fun c_8 => ?_)
  ·
    have z_5 : ¬ (1 ≤ rl (osW V) ∧ ((fiW V).length : Int) ≤ 4) := fun q => by rw [show osW V = [] from if_pos (nil_of c_8)] at q; exact absurd q.1 (by decide)
    refine x_bipush (z := (-4)) ho d_MO_derive_27 (by decide) ?_
    refine x_iret ho hr d_MO_derive_29 ?_
    have e : m_derive V = (-4, V) := by unfold m_derive; rw [cif_f (z_5)]
    exact ⟨by rw [e], by rw [e]; exact isO_mk a_o a_n a_h a_s a_t a_b a_p a_u a_x a_c a_e a_y a_k⟩
  ·
    refine x_aload_n ho 0 d_MO_derive_11 rfl ?_
    refine x_callV (rest := []) ho d_MO_derive_12 yv_MO_finds g_896 g_37 g_895 (c_MO_finds M.2.1 D m ((V.2.2.2.1.length : Int)) V.2.2.1 o_fo o_di ((V.2.2.2.2.length : Int)) o_az V.1 o_p o_u ) rfl rfl ⟨Nat.le_of_ble_eq_true rfl, Nat.le_of_ble_eq_true rfl⟩ ⟨Nat.le_of_ble_eq_true rfl, Nat.le_of_ble_eq_true rfl⟩ rfl rfl (Nat.le_of_ble_eq_true rfl) a_o rfl rfl ⟨a_o, a_n, a_p, a_u⟩ (fun z hz => by rcases hz with ⟨z1, z2⟩ | ⟨z1, z2⟩ <;> exact rA_in (by omega) (by omega)) (fun v_1 H_3 hv_1 f_2 => ?_)
    have k_4 := a_h.kept (f_2.2 _ a_h.lt (fun z => by rcases z with ⟨z1, z2⟩ | ⟨z1, z2⟩ <;> omega))
    have k_5 := a_s.kept (f_2.2 _ a_s.lt (fun z => by rcases z with ⟨z1, z2⟩ | ⟨z1, z2⟩ <;> omega))
    have k_6 := a_t.kept (f_2.2 _ a_t.lt (fun z => by rcases z with ⟨z1, z2⟩ | ⟨z1, z2⟩ <;> omega))
    have k_7 := a_b.kept (f_2.2 _ a_b.lt (fun z => by rcases z with ⟨z1, z2⟩ | ⟨z1, z2⟩ <;> omega))
    have k_8 := a_x.kept (f_2.2 _ a_x.lt (fun z => by rcases z with ⟨z1, z2⟩ | ⟨z1, z2⟩ <;> omega))
    have k_9 := a_c.kept (f_2.2 _ a_c.lt (fun z => by rcases z with ⟨z1, z2⟩ | ⟨z1, z2⟩ <;> omega))
    have k_10 := a_e.kept (f_2.2 _ a_e.lt (fun z => by rcases z with ⟨z1, z2⟩ | ⟨z1, z2⟩ <;> omega))
    have k_11 := a_y.kept (f_2.2 _ a_y.lt (fun z => by rcases z with ⟨z1, z2⟩ | ⟨z1, z2⟩ <;> omega))
    obtain ⟨p1_12, u1_13, rfl, hb_14, hp_15, hu_16, t_o_17, t_n_18, t_p_19, t_u_20⟩ := hv_1
    show X _ _ _ _ _ _ _ _ _ [zV (((aos V.1.2.1 V.1.2.2).length : Int))] _
    have hos : osW V = aos V.1.2.1 V.1.2.2 := aos_ocs (ne_nil c_8)
    have hrl := rl_e (os := aos V.1.2.1 V.1.2.2)
    have hbb := hb_14
    have huu := hu_16
    have hro : roW V = roo V.1.2.1 (aos V.1.2.1 V.1.2.2) := by unfold roW; rw [hos]
    have hfi : fiW V = fir V.1.2.1 (aos V.1.2.1 V.1.2.2) := by unfold fiW; rw [hos]
    have hrn := roo_len V.1.2.1 (aos V.1.2.1 V.1.2.2)
    have hfl := fir_len V.1.2.1 (aos V.1.2.1 V.1.2.2)
    refine x_iconst ho d_MO_derive_15 ?_
    refine x_icmp_lt (tgt := 27) ho d_MO_derive_16 (by decide) (by omega) (by omega) (fun c_16 => ?_) (fun c_16 => ?_)
    ·
      have z_5 : ¬ (1 ≤ rl (osW V) ∧ ((fiW V).length : Int) ≤ 4) := fun q => by rw [hos] at q; omega
      refine x_bipush (z := (-4)) ho d_MO_derive_27 (by decide) ?_
      refine x_iret ho hr d_MO_derive_29 ?_
      have e : m_derive V = (-4, V) := by unfold m_derive; rw [cif_f (z_5)]
      exact ⟨by rw [e], by rw [e]; exact isO_mk t_o_17 t_n_18 k_4 k_5 k_6 k_7 t_p_19 t_u_20 k_8 k_9 k_10 k_11 a_k⟩
    ·
      refine x_aload_n ho 0 d_MO_derive_19 rfl ?_
      refine x_get 10 ho d_MO_derive_20 cl_MO (by decide) g_767 t_o_17 rfl ?_
      refine x_iconst ho d_MO_derive_23 ?_
      refine x_icmp_le (tgt := 30) ho d_MO_derive_24 (by decide) (by omega) (by omega) (fun c_24 => ?_) (fun c_24 => ?_)
      ·
        have z_5 : 1 ≤ rl (osW V) ∧ ((fiW V).length : Int) ≤ 4 := ⟨by rw [hos]; omega, by rw [hfi]; exact c_24⟩
        refine x_aload_n ho 0 d_MO_derive_30 rfl ?_
        refine x_get 5 ho d_MO_derive_31 cl_MO (by decide) g_762 t_o_17 rfl ?_
        refine x_iconst ho d_MO_derive_34 ?_
        refine x_aload_n ho 0 d_MO_derive_35 rfl ?_
        refine x_get 8 ho d_MO_derive_36 cl_MO (by decide) g_765 t_o_17 rfl ?_
        refine x_iconst ho d_MO_derive_39 ?_
        refine x_isub ho d_MO_derive_40 ?_
        refine x_iast ho d_MO_derive_41 k_6 (by omega) (by omega) (by omega) (rA_in (by omega) (by omega)) (fun H_21 p_22 z_23 q_24 => ?_)
        have k_25 := k_4.kept (q_24 _ (by omega))
        have k_26 := k_5.kept (q_24 _ (by omega))
        have k_27 := k_7.kept (q_24 _ (by omega))
        have k_28 := k_8.kept (q_24 _ (by omega))
        have k_29 := k_9.kept (q_24 _ (by omega))
        have k_30 := k_10.kept (q_24 _ (by omega))
        have k_31 := k_11.kept (q_24 _ (by omega))
        have k_32 := t_o_17.kept (q_24 _ (by omega))
        have k_33 := t_n_18.kept (q_24 _ (by omega))
        have k_34 := t_p_19.kept (q_24 _ (by omega))
        have k_35 := t_u_20.kept (q_24 _ (by omega))
        refine x_iconst ho d_MO_derive_42 ?_
        refine x_istore_n (L' := [(1, zV 0), (0, .ref m)]) ho d_MO_derive_43 (by decide) rfl ?_
        have loop_44 : ∀ (kk : Nat) (k : Int) (T : Int → Int) (H_36 : Heap) (l_o : At D H_36 m (oO 11 [.ref (m + 1), .ref (m + 2), zV ((V.2.2.2.1.length : Int)), .ref (m + 3), zV V.2.2.1, .ref (m + 4), .ref (m + 5), .ref (m + 6), zV (((aos V.1.2.1 V.1.2.2).length : Int)), .ref (m + 7), zV (((fir V.1.2.1 (aos V.1.2.1 V.1.2.2)).length : Int)), zV ((V.2.2.2.2.length : Int)), .ref (m + 8), zV o_az, .ref (m + 9), .ref (m + 10), .ref (m + 11)])) (l_n : isN D H_36 (m + 1) V.1) (l_h : isHm D H_36 (m + 2) V.2.2.2.1) (l_s : isSl D H_36 (m + 3) V.2.2.1 V.2.1) (l_t : At D H_36 (m + 4) (oI D 301 T)) (l_b : At D H_36 (m + 5) (oI D 301 o_b)) (l_p : At D H_36 (m + 6) (oI D 300 (p1_12))) (l_u : At D H_36 (m + 7) (oI D 300 (u1_13))) (l_x : isTx D H_36 (m + 8) V.2.2.2.2) (l_c : At D H_36 (m + 9) (oI D 16 o_c)) (l_e : At D H_36 (m + 10) (oI D 16 o_e)) (l_y : At D H_36 (m + 11) (oI D 4 o_y)) (k0 : 0 ≤ k ∧ k ≤ rl (aos V.1.2.1 V.1.2.2)) (h0 : T 0 = ((aos V.1.2.1 V.1.2.2).length : Int) - 1) (hT : ∀ j : Int, 0 ≤ j → j < k → T (1 + j) = gA (roo V.1.2.1 (aos V.1.2.1 V.1.2.2)) j), (rl (aos V.1.2.1 V.1.2.2) - k).toNat < kk → X M ({ frames := 3, cells := 0, slots := 0, locals := 67 } : Room) 2 (rA m (m + 12)) 0 0 (Qof M (rA m (m + 12)) (q_MO_derive D m V) 0 0) 44 [(1, zV k), (0, .ref m)] [] H_36 := by
          intro kk
          induction kk with
          | zero => intro k T H_36 l_o l_n l_h l_s l_t l_b l_p l_u l_x l_c l_e l_y k0 h0 hT hk; exact absurd hk (Nat.not_lt_zero _)
          | succ kk ih_44 =>
            intro k T H_36 l_o l_n l_h l_s l_t l_b l_p l_u l_x l_c l_e l_y k0 h0 hT hk_44
            refine x_iload_n ho 0 d_MO_derive_44 rfl ?_
            refine x_aload_n ho 1 d_MO_derive_45 rfl ?_
            refine x_get 8 ho d_MO_derive_46 cl_MO (by decide) g_765 l_o rfl ?_
            refine x_iconst ho d_MO_derive_49 ?_
            refine x_isub ho d_MO_derive_50 ?_
            refine x_icmp_ge (tgt := 74) ho d_MO_derive_51 (by decide) (by omega) (by omega) (fun c_51 => ?_) (fun c_51 => ?_)
            ·
              have hW2 : rpW T 0 1 (roo V.1.2.1 (aos V.1.2.1 V.1.2.2)) := rp_row hT (by rw [hrn]; omega) (by omega)
              have hWF := wf_roo (L := V.1.2.1) (os := aos V.1.2.1 V.1.2.2) c_24
              refine x_aload_n ho 1 d_MO_derive_74 rfl ?_
              refine x_callV (rest := []) ho d_MO_derive_75 yv_MO_isSameWord g_882 g_35 g_881 (c_MO_isSameWord M.2.1 D m ((V.2.2.2.1.length : Int)) V.2.2.1 (((aos V.1.2.1 V.1.2.2).length : Int)) (((fir V.1.2.1 (aos V.1.2.1 V.1.2.2)).length : Int)) ((V.2.2.2.2.length : Int)) o_az V.1 T (roo V.1.2.1 (aos V.1.2.1 V.1.2.2)) (by exact hW2) (by exact ⟨by rw [hrn]; omega, hWF⟩)) rfl rfl ⟨Nat.le_of_ble_eq_true rfl, Nat.le_of_ble_eq_true rfl⟩ ⟨Nat.le_of_ble_eq_true rfl, Nat.le_of_ble_eq_true rfl⟩ rfl rfl (Nat.le_of_ble_eq_true rfl) l_o rfl rfl ⟨l_o, l_n, l_t⟩ fr_none' (x_rd (fun v_37 hv_37 => ?_))
              obtain rfl := hv_37
              show X _ _ _ _ _ _ _ _ _ [zV (bI ((roo V.1.2.1 (aos V.1.2.1 V.1.2.2)) = V.1.2.1))] _
              refine x_if_eqB (tgt := 84) ho d_MO_derive_78 (by decide) (fun c_78 => ?_) (fun c_78 => ?_)
              ·
                refine x_aload_n ho 1 d_MO_derive_84 rfl ?_
                refine x_callV (rest := []) ho d_MO_derive_85 yv_MO_record g_835 g_28 g_834 (c_MO_record M.2.1 D m V.2.2.1 (((aos V.1.2.1 V.1.2.2).length : Int)) (((fir V.1.2.1 (aos V.1.2.1 V.1.2.2)).length : Int)) ((V.2.2.2.2.length : Int)) o_az V.1 V.2.2.2.1 ) rfl rfl ⟨Nat.le_of_ble_eq_true rfl, Nat.le_of_ble_eq_true rfl⟩ ⟨Nat.le_of_ble_eq_true rfl, Nat.le_of_ble_eq_true rfl⟩ rfl rfl (Nat.le_of_ble_eq_true rfl) l_o rfl rfl ⟨l_o, l_n, l_h⟩ (rA_sub (by omega) (by omega)) (fun v_39 H_41 hv_39 f_40 => ?_)
                have k_42 := l_s.kept (f_40.2 _ l_s.lt (rA_no (by omega)))
                have k_43 := l_t.kept (f_40.2 _ l_t.lt (rA_no (by omega)))
                have k_44 := l_b.kept (f_40.2 _ l_b.lt (rA_no (by omega)))
                have k_45 := l_p.kept (f_40.2 _ l_p.lt (rA_no (by omega)))
                have k_46 := l_u.kept (f_40.2 _ l_u.lt (rA_no (by omega)))
                have k_47 := l_x.kept (f_40.2 _ l_x.lt (rA_no (by omega)))
                have k_48 := l_c.kept (f_40.2 _ l_c.lt (rA_no (by omega)))
                have k_49 := l_e.kept (f_40.2 _ l_e.lt (rA_no (by omega)))
                have k_50 := l_y.kept (f_40.2 _ l_y.lt (rA_no (by omega)))
                obtain ⟨rfl, t_o_51, t_n_52, t_h_53⟩ := hv_39
                show X _ _ _ _ _ _ _ _ _ [] _
                refine x_aload_n ho 1 d_MO_derive_88 rfl ?_
                refine x_callV (rest := []) ho d_MO_derive_89 yv_MO_laysWord g_885 g_36 g_884 (c_MO_laysWord M.2.1 D m (((recH V.2.2.2.1 V.1).length : Int)) V.2.2.1 (((aos V.1.2.1 V.1.2.2).length : Int)) (((fir V.1.2.1 (aos V.1.2.1 V.1.2.2)).length : Int)) ((V.2.2.2.2.length : Int)) o_az V.1 T (roo V.1.2.1 (aos V.1.2.1 V.1.2.2)) (by exact hW2) (by exact ⟨by rw [hrn]; omega, by rw [hrn]; omega, hWF⟩)) rfl rfl ⟨Nat.le_of_ble_eq_true rfl, Nat.le_of_ble_eq_true rfl⟩ ⟨Nat.le_of_ble_eq_true rfl, Nat.le_of_ble_eq_true rfl⟩ rfl rfl (Nat.le_of_ble_eq_true rfl) t_o_51 rfl rfl ⟨t_o_51, t_n_52, k_43⟩ (rA_sub (by omega) (by omega)) (fun v_54 H_56 hv_54 f_55 => ?_)
                have k_57 := k_42.kept (f_55.2 _ k_42.lt (rA_no (by omega)))
                have k_58 := k_44.kept (f_55.2 _ k_44.lt (rA_no (by omega)))
                have k_59 := k_45.kept (f_55.2 _ k_45.lt (rA_no (by omega)))
                have k_60 := k_46.kept (f_55.2 _ k_46.lt (rA_no (by omega)))
                have k_61 := k_47.kept (f_55.2 _ k_47.lt (rA_no (by omega)))
                have k_62 := k_48.kept (f_55.2 _ k_48.lt (rA_no (by omega)))
                have k_63 := k_49.kept (f_55.2 _ k_49.lt (rA_no (by omega)))
                have k_64 := k_50.kept (f_55.2 _ k_50.lt (rA_no (by omega)))
                have k_65 := t_h_53.kept (f_55.2 _ t_h_53.lt (rA_no (by omega)))
                obtain ⟨rfl, t_o_66, t_n_67, t_t_68⟩ := hv_54
                show X _ _ _ _ _ _ _ _ _ [] _
                refine x_aload_n ho 1 d_MO_derive_92 rfl ?_
                refine x_callV (rest := []) ho d_MO_derive_93 yv_MO_length g_862 g_31 g_861 (c_MO_length M.2.1 D m (((recH V.2.2.2.1 V.1).length : Int)) V.2.2.1 (((aos V.1.2.1 V.1.2.2).length : Int)) (((fir V.1.2.1 (aos V.1.2.1 V.1.2.2)).length : Int)) ((V.2.2.2.2.length : Int)) o_az (V.1.1, (roo V.1.2.1 (aos V.1.2.1 V.1.2.2)), V.1.2.2) ) rfl rfl ⟨Nat.le_of_ble_eq_true rfl, Nat.le_of_ble_eq_true rfl⟩ ⟨Nat.le_of_ble_eq_true rfl, Nat.le_of_ble_eq_true rfl⟩ rfl rfl (Nat.le_of_ble_eq_true rfl) t_o_66 rfl rfl ⟨t_o_66, t_n_67⟩ fr_none' (x_rd (fun v_69 hv_69 => ?_))
                obtain ⟨rfl, lb_71⟩ := hv_69
                show X _ _ _ _ _ _ _ _ _ [zV (((roo V.1.2.1 (aos V.1.2.1 V.1.2.2)).length : Int))] _
                refine x_iret ho hr d_MO_derive_96 ?_
                have e : m_derive V = (rl (aos V.1.2.1 V.1.2.2), act (V.1.1, roo V.1.2.1 (aos V.1.2.1 V.1.2.2), V.1.2.2) V) := by unfold m_derive; rw [cif_t z_5, cif_f (by rw [hro]; exact c_78), hos, hro]
                exact ⟨rI (by rw [e]; exact hrn), by rw [e]; exact isO_mk t_o_66 t_n_67 k_65 k_57 t_t_68 k_58 k_59 k_60 k_61 k_62 k_63 k_64 a_k⟩
              ·
                refine x_bipush (z := (-5)) ho d_MO_derive_81 (by decide) ?_
                refine x_iret ho hr d_MO_derive_83 ?_
                have e : m_derive V = (-5, V) := by unfold m_derive; rw [cif_t (z_5), cif_t (by rw [hro]; exact c_78)]
                exact ⟨by rw [e], by rw [e]; exact isO_mk l_o l_n l_h l_s l_t l_b l_p l_u l_x l_c l_e l_y a_k⟩
            ·
              refine x_aload_n ho 1 d_MO_derive_54 rfl ?_
              refine x_get 5 ho d_MO_derive_55 cl_MO (by decide) g_762 l_o rfl ?_
              refine x_iconst ho d_MO_derive_58 ?_
              refine x_iload_n ho 0 d_MO_derive_59 rfl ?_
              refine x_iadd ho d_MO_derive_60 ?_
              refine x_aload_n ho 1 d_MO_derive_61 rfl ?_
              refine x_get 9 ho d_MO_derive_62 cl_MO (by decide) g_766 l_o rfl ?_
              refine x_iload_n ho 0 d_MO_derive_65 rfl ?_
              refine x_iald ho d_MO_derive_66 l_u (by omega) (by omega) (by omega) ?_
              refine x_eqI (b := gA (roo V.1.2.1 (aos V.1.2.1 V.1.2.2)) k) (by exact huu k (by omega) (by omega)) ?_
              refine x_iast ho d_MO_derive_67 l_t (by omega) (by omega) (by omega) (rA_in (by omega) (by omega)) (fun H_72 p_73 z_74 q_75 => ?_)
              have k_76 := l_o.kept (q_75 _ (by omega))
              have k_77 := l_n.kept (q_75 _ (by omega))
              have k_78 := l_h.kept (q_75 _ (by omega))
              have k_79 := l_s.kept (q_75 _ (by omega))
              have k_80 := l_b.kept (q_75 _ (by omega))
              have k_81 := l_p.kept (q_75 _ (by omega))
              have k_82 := l_u.kept (q_75 _ (by omega))
              have k_83 := l_x.kept (q_75 _ (by omega))
              have k_84 := l_c.kept (q_75 _ (by omega))
              have k_85 := l_e.kept (q_75 _ (by omega))
              have k_86 := l_y.kept (q_75 _ (by omega))
              refine x_iinc (L' := [(1, zV (k + 1)), (0, .ref m)]) ho 0 d_MO_derive_68 rfl rfl (by decide) rfl ?_
              refine x_goto (tgt := 44) ho d_MO_derive_71 (by decide) ?_
              exact ih_44 (k + 1) (zU T (1 + k) (gA (roo V.1.2.1 (aos V.1.2.1 V.1.2.2)) k)) H_72 k_76 k_77 k_78 k_79 p_73 k_80 k_81 k_82 k_83 k_84 k_85 k_86 (by omega) (by rw [zU_n _ _ (by omega)]; exact h0) (by intro j a b; by_cases hj : j = k; rw [hj, zU_s]; rw [zU_n _ _ (by omega)]; exact hT j a (by omega)) (by omega)
        exact loop_44 _ 0 (zU o_t 0 (((aos V.1.2.1 V.1.2.2).length : Int) - 1)) H_21 k_32 k_33 k_25 k_26 p_22 k_27 k_34 k_35 k_28 k_29 k_30 k_31 (by omega) (by exact zU_s _ _ _) (by exact fun j a b => by omega) (Nat.lt_succ_self _)
      ·
        have z_5 : ¬ (1 ≤ rl (osW V) ∧ ((fiW V).length : Int) ≤ 4) := fun q => by rw [hfi] at q; omega
        refine x_bipush (z := (-4)) ho d_MO_derive_27 (by decide) ?_
        refine x_iret ho hr d_MO_derive_29 ?_
        have e : m_derive V = (-4, V) := by unfold m_derive; rw [cif_f (z_5)]
        exact ⟨by rw [e], by rw [e]; exact isO_mk t_o_17 t_n_18 k_4 k_5 k_6 k_7 t_p_19 t_u_20 k_8 k_9 k_10 k_11 a_k⟩
