def q_MO_look (D : GG) (m : Nat) (V : WV) : Option Value → Heap → Prop := fun v0 H => v0 = some (zV ((m_look V).1)) ∧ isO D H m ((m_look V).2)
theorem yv_MO_look : Yv y_MO_look b_MO_look 4 (Option.some FieldType.int) 0 := ⟨g_910, g_65, by decide, by decide +kernel⟩
set_option maxHeartbeats 4000000 in
set_option maxRecDepth 100000 in
theorem c_MO_look (l0 : Launch) (D : GG) (m : Nat) (V : WV)  : Ct l0 D y_MO_look b_MO_look 4 (Option.some FieldType.int) ({ frames := 3, cells := 0, slots := 0, locals := 67 } : Room) [.ref m] (fun H => isO D H m V) (rA m (m + 12)) 0 0 (q_MO_look D m V) := by
  refine Ct.of (L := [(0, .ref m)]) (by decide) (Nat.le_of_ble_eq_true rfl) rfl (fun M H ho hr hnm hH hpre => ?_)
  have hW := hpre
  obtain ⟨o_fo, o_di, o_az, o_t, o_b, o_p, o_u, o_c, o_e, o_y, a_o, a_n, a_h, a_s, a_t, a_b, a_p, a_u, a_x, a_c, a_e, a_y, a_k⟩ := id hW
  have n_o := a_n.ok
  have n_1 := n_o.1
  have n_2 := n_o.2.1
  have n_3 := n_o.2.2
  have h_b := a_h.b
  refine x_aload_n ho 0 d_MO_look_0 rfl ?_
  refine x_callV (rest := []) ho d_MO_look_1 yv_MO_pieceOfText g_912 g_41 g_911 (c_MO_pieceOfText M.2.1 D m ((V.2.2.2.1.length : Int)) V.2.2.1 o_fo o_di o_az V.2.2.2.2 ) rfl rfl ⟨Nat.le_of_ble_eq_true rfl, Nat.le_of_ble_eq_true rfl⟩ ⟨Nat.le_of_ble_eq_true rfl, Nat.le_of_ble_eq_true rfl⟩ rfl rfl (Nat.le_of_ble_eq_true rfl) a_o rfl rfl ⟨a_o, a_x⟩ (rA_sub (by omega) (by omega)) (fun v_1 H_3 hv_1 f_2 => ?_)
  have k_4 := a_n.kept (f_2.2 _ a_n.lt (rA_no (by omega)))
  have k_5 := a_h.kept (f_2.2 _ a_h.lt (rA_no (by omega)))
  have k_6 := a_s.kept (f_2.2 _ a_s.lt (rA_no (by omega)))
  have k_7 := a_t.kept (f_2.2 _ a_t.lt (rA_no (by omega)))
  have k_8 := a_b.kept (f_2.2 _ a_b.lt (rA_no (by omega)))
  have k_9 := a_p.kept (f_2.2 _ a_p.lt (rA_no (by omega)))
  have k_10 := a_u.kept (f_2.2 _ a_u.lt (rA_no (by omega)))
  have k_11 := a_c.kept (f_2.2 _ a_c.lt (rA_no (by omega)))
  have k_12 := a_e.kept (f_2.2 _ a_e.lt (rA_no (by omega)))
  have k_13 := a_y.kept (f_2.2 _ a_y.lt (rA_no (by omega)))
  rcases hv_1 with ⟨rfl, hp_14, t_o_15, t_x_16⟩ | ⟨rfl, hp_17, t_o_18, t_x_19⟩
  ·
    show X _ _ _ _ _ _ _ _ _ [zV ((V.2.2.2.2.length : Int))] _
    have hpp := hp_14
    obtain ⟨hp1, hpl, hpu, hpe, hpt⟩ := hpp
    refine x_istore_n (L' := [(1, zV ((V.2.2.2.2.length : Int))), (0, .ref m)]) ho d_MO_look_4 (by decide) rfl ?_
    refine x_iload_n ho 0 d_MO_look_5 rfl ?_
    refine x_bipush (z := (-5)) ho d_MO_look_6 (by decide) ?_
    refine x_icmp_ne (tgt := 19) ho d_MO_look_8 (by decide) (by omega) (by omega) (fun c_8 => ?_) (fun c_8 => ?_)
    ·
      obtain ⟨g_f, g_a, g_r, g_p⟩ := id k_4
      obtain ⟨⟨x_f, x_a, x_r⟩, x_l, x_w⟩ := id t_x_16
      refine x_aload_n ho 1 d_MO_look_19 rfl ?_
      refine x_get 0 ho d_MO_look_20 cl_MO (by decide) g_757 t_o_15 rfl ?_
      refine x_sipush (z := 337) ho d_MO_look_23 (by decide) ?_
      refine x_iald ho d_MO_look_26 g_a (by omega) (by omega) (by omega) ?_
      refine x_eqI (b := (V.1.2.2.length : Int)) (by exact g_r.2.2.1) ?_
      refine x_iload_n ho 0 d_MO_look_27 rfl ?_
      refine x_icmp_ne (tgt := 35) ho d_MO_look_28 (by decide) (by omega) (by omega) (fun c_28 => ?_) (fun c_28 => ?_)
      ·
        refine x_iconst ho d_MO_look_35 ?_
        refine x_istore_n (L' := [(2, zV 0), (1, zV ((V.2.2.2.2.length : Int))), (0, .ref m)]) ho d_MO_look_36 (by decide) rfl ?_
        refine x_iconst ho d_MO_look_37 ?_
        refine x_istore_n (L' := [(3, zV 0), (2, zV 0), (1, zV ((V.2.2.2.2.length : Int))), (0, .ref m)]) ho d_MO_look_38 (by decide) rfl ?_
        have loop_39 : ∀ (kk : Nat) (k : Int) (s : Int) (k0 : 0 ≤ k ∧ k ≤ (V.2.2.2.2.length : Int)) (s1 : s = 0 ∨ s = 1) (hs : (s = 1 ∧ (V.1.2.2.length : Int) = (V.2.2.2.2.length : Int) ∧ ∀ j : Int, 0 ≤ j → j < k → gA V.1.2.2 j = gA V.2.2.2.2 j - 97) ∨ (s = 0 ∧ ¬ pm V.2.2.2.2 ((V.2.2.2.2.length : Int)) = V.1.2.2)), ((V.2.2.2.2.length : Int) - k).toNat < kk → X M ({ frames := 3, cells := 0, slots := 0, locals := 67 } : Room) 4 (rA m (m + 12)) 0 0 (Qof M (rA m (m + 12)) (q_MO_look D m V) 0 0) 39 [(3, zV k), (2, zV s), (1, zV ((V.2.2.2.2.length : Int))), (0, .ref m)] [] H_3 := by
          intro kk
          induction kk with
          | zero => intro k s k0 s1 hs hk; exact absurd hk (Nat.not_lt_zero _)
          | succ kk ih_39 =>
            intro k s k0 s1 hs hk_39
            refine x_iload_n ho 0 d_MO_look_39 rfl ?_
            refine x_iload_n ho 2 d_MO_look_40 rfl ?_
            refine x_icmp_ge (tgt := 82) ho d_MO_look_41 (by decide) (by omega) (by omega) (fun c_41 => ?_) (fun c_41 => ?_)
            ·
              refine x_iload_n ho 1 d_MO_look_82 rfl ?_
              refine x_if_eq (tgt := 89) ho d_MO_look_83 (by decide) (by omega) (fun c_83 => ?_) (fun c_83 => ?_)
              ·
                have hkn : ¬ pm V.2.2.2.2 ((V.2.2.2.2.length : Int)) = V.1.2.2 := by rcases hs with h | h; omega; exact h.2
                refine x_aload_n ho 3 d_MO_look_89 rfl ?_
                refine x_callV (rest := []) ho d_MO_look_90 yv_MO_record g_835 g_28 g_834 (c_MO_record M.2.1 D m V.2.2.1 o_fo o_di ((V.2.2.2.2.length : Int)) ((V.2.2.2.2.length : Int)) V.1 V.2.2.2.1 ) rfl rfl ⟨Nat.le_of_ble_eq_true rfl, Nat.le_of_ble_eq_true rfl⟩ ⟨Nat.le_of_ble_eq_true rfl, Nat.le_of_ble_eq_true rfl⟩ rfl rfl (Nat.le_of_ble_eq_true rfl) t_o_15 rfl rfl ⟨t_o_15, k_4, k_5⟩ (rA_sub (by omega) (by omega)) (fun v_20 H_22 hv_20 f_21 => ?_)
                have k_23 := k_6.kept (f_21.2 _ k_6.lt (rA_no (by omega)))
                have k_24 := k_7.kept (f_21.2 _ k_7.lt (rA_no (by omega)))
                have k_25 := k_8.kept (f_21.2 _ k_8.lt (rA_no (by omega)))
                have k_26 := k_9.kept (f_21.2 _ k_9.lt (rA_no (by omega)))
                have k_27 := k_10.kept (f_21.2 _ k_10.lt (rA_no (by omega)))
                have k_28 := k_11.kept (f_21.2 _ k_11.lt (rA_no (by omega)))
                have k_29 := k_12.kept (f_21.2 _ k_12.lt (rA_no (by omega)))
                have k_30 := k_13.kept (f_21.2 _ k_13.lt (rA_no (by omega)))
                have k_31 := t_x_16.kept (f_21.2 _ t_x_16.lt (rA_no (by omega)))
                have k_32 := x_a.kept (f_21.2 _ x_a.lt (rA_no (by omega)))
                obtain ⟨rfl, t_o_33, t_n_34, t_h_35⟩ := hv_20
                show X _ _ _ _ _ _ _ _ _ [] _
                obtain ⟨g_f2, g_a2, g_r2, g_p2⟩ := id t_n_34
                refine x_aload_n ho 3 d_MO_look_93 rfl ?_
                refine x_get 0 ho d_MO_look_94 cl_MO (by decide) g_757 t_o_33 rfl ?_
                refine x_sipush (z := 337) ho d_MO_look_97 (by decide) ?_
                refine x_iload_n ho 2 d_MO_look_100 rfl ?_
                refine x_iast ho d_MO_look_101 g_a2 (by omega) (by omega) (by omega) (rA_in (by omega) (by omega)) (fun H_36 p_37 z_38 q_39 => ?_)
                have k_40 := k_23.kept (q_39 _ (by omega))
                have k_41 := k_24.kept (q_39 _ (by omega))
                have k_42 := k_25.kept (q_39 _ (by omega))
                have k_43 := k_26.kept (q_39 _ (by omega))
                have k_44 := k_27.kept (q_39 _ (by omega))
                have k_45 := k_28.kept (q_39 _ (by omega))
                have k_46 := k_29.kept (q_39 _ (by omega))
                have k_47 := k_30.kept (q_39 _ (by omega))
                have k_48 := k_31.kept (q_39 _ (by omega))
                have k_49 := k_32.kept (q_39 _ (by omega))
                have k_50 := t_o_33.kept (q_39 _ (by omega))
                have k_51 := t_h_35.kept (q_39 _ (by omega))
                refine x_iconst ho d_MO_look_102 ?_
                refine x_istore_n (L' := [(3, zV 0), (2, zV s), (1, zV ((V.2.2.2.2.length : Int))), (0, .ref m)]) ho d_MO_look_103 (by decide) rfl ?_
                have loop_104 : ∀ (kk : Nat) (k : Int) (G : Int → Int) (H_52 : Heap) (l_o : At D H_52 m (oO 11 [.ref (m + 1), .ref (m + 2), zV (((recH V.2.2.2.1 V.1).length : Int)), .ref (m + 3), zV V.2.2.1, .ref (m + 4), .ref (m + 5), .ref (m + 6), zV o_fo, .ref (m + 7), zV o_di, zV ((V.2.2.2.2.length : Int)), .ref (m + 8), zV ((V.2.2.2.2.length : Int)), .ref (m + 9), .ref (m + 10), .ref (m + 11)])) (l_h : isHm D H_52 (m + 2) (recH V.2.2.2.1 V.1)) (l_s : isSl D H_52 (m + 3) V.2.2.1 V.2.1) (l_t : At D H_52 (m + 4) (oI D 301 o_t)) (l_b : At D H_52 (m + 5) (oI D 301 o_b)) (l_p : At D H_52 (m + 6) (oI D 300 o_p)) (l_u : At D H_52 (m + 7) (oI D 300 o_u)) (l_x : isTx D H_52 (m + 8) V.2.2.2.2) (l_c : At D H_52 (m + 9) (oI D 16 o_c)) (l_e : At D H_52 (m + 10) (oI D 16 o_e)) (l_y : At D H_52 (m + 11) (oI D 4 o_y)) (l_d : At D H_52 (m + 1) (oI D 358 G)) (k0 : 0 ≤ k ∧ k ≤ (V.2.2.2.2.length : Int)) (hG : G 337 = (V.2.2.2.2.length : Int)) (hG2 : ∀ j : Int, 0 ≤ j → j < k → G (338 + j) = gA V.2.2.2.2 j - 97) (hG3 : ∀ j : Int, j < 337 → G j = g_f2 j), ((V.2.2.2.2.length : Int) - k).toNat < kk → X M ({ frames := 3, cells := 0, slots := 0, locals := 67 } : Room) 4 (rA m (m + 12)) 0 0 (Qof M (rA m (m + 12)) (q_MO_look D m V) 0 0) 104 [(3, zV k), (2, zV s), (1, zV ((V.2.2.2.2.length : Int))), (0, .ref m)] [] H_52 := by
                  intro kk
                  induction kk with
                  | zero => intro k G H_52 l_o l_h l_s l_t l_b l_p l_u l_x l_c l_e l_y l_d k0 hG hG2 hG3 hk; exact absurd hk (Nat.not_lt_zero _)
                  | succ kk ih_104 =>
                    intro k G H_52 l_o l_h l_s l_t l_b l_p l_u l_x l_c l_e l_y l_d k0 hG hG2 hG3 hk_104
                    refine x_iload_n ho 0 d_MO_look_104 rfl ?_
                    refine x_iload_n ho 2 d_MO_look_105 rfl ?_
                    refine x_icmp_ge (tgt := 134) ho d_MO_look_106 (by decide) (by omega) (by omega) (fun c_106 => ?_) (fun c_106 => ?_)
                    ·
                      have hpz := pm_len (L := V.2.2.2.2) (k := (V.2.2.2.2.length : Int)) (by omega) (Int.le_refl _)
                      have hN : isN D H_52 (m + 1) (V.1.1, V.1.2.1, pm V.2.2.2.2 ((V.2.2.2.2.length : Int))) := ⟨_, l_d, rp_look g_r2 g_p2 (by rw [hpz]; exact hG) (fun j a b => by rw [hpz] at b; rw [pm_g a b (Int.le_refl _)]; exact hG2 j a (by omega)) hG3, n_1, n_2, by show ((pm V.2.2.2.2 ((V.2.2.2.2.length : Int))).length : Int) ≤ 20; omega, pm_w hpt⟩
                      refine x_aload_n ho 3 d_MO_look_134 rfl ?_
                      refine x_callV (rest := []) ho d_MO_look_135 yv_MO_finds g_896 g_37 g_895 (c_MO_finds M.2.1 D m (((recH V.2.2.2.1 V.1).length : Int)) V.2.2.1 o_fo o_di ((V.2.2.2.2.length : Int)) ((V.2.2.2.2.length : Int)) (V.1.1, V.1.2.1, pm V.2.2.2.2 ((V.2.2.2.2.length : Int))) o_p o_u ) rfl rfl ⟨Nat.le_of_ble_eq_true rfl, Nat.le_of_ble_eq_true rfl⟩ ⟨Nat.le_of_ble_eq_true rfl, Nat.le_of_ble_eq_true rfl⟩ rfl rfl (Nat.le_of_ble_eq_true rfl) l_o rfl rfl ⟨l_o, hN, l_p, l_u⟩ (fun z hz => by rcases hz with ⟨z1, z2⟩ | ⟨z1, z2⟩ <;> exact rA_in (by omega) (by omega)) (fun v_53 H_55 hv_53 f_54 => ?_)
                      have k_56 := l_h.kept (f_54.2 _ l_h.lt (fun z => by rcases z with ⟨z1, z2⟩ | ⟨z1, z2⟩ <;> omega))
                      have k_57 := l_s.kept (f_54.2 _ l_s.lt (fun z => by rcases z with ⟨z1, z2⟩ | ⟨z1, z2⟩ <;> omega))
                      have k_58 := l_t.kept (f_54.2 _ l_t.lt (fun z => by rcases z with ⟨z1, z2⟩ | ⟨z1, z2⟩ <;> omega))
                      have k_59 := l_b.kept (f_54.2 _ l_b.lt (fun z => by rcases z with ⟨z1, z2⟩ | ⟨z1, z2⟩ <;> omega))
                      have k_60 := l_x.kept (f_54.2 _ l_x.lt (fun z => by rcases z with ⟨z1, z2⟩ | ⟨z1, z2⟩ <;> omega))
                      have k_61 := l_c.kept (f_54.2 _ l_c.lt (fun z => by rcases z with ⟨z1, z2⟩ | ⟨z1, z2⟩ <;> omega))
                      have k_62 := l_e.kept (f_54.2 _ l_e.lt (fun z => by rcases z with ⟨z1, z2⟩ | ⟨z1, z2⟩ <;> omega))
                      have k_63 := l_y.kept (f_54.2 _ l_y.lt (fun z => by rcases z with ⟨z1, z2⟩ | ⟨z1, z2⟩ <;> omega))
                      obtain ⟨p1_64, u1_65, rfl, hb_66, hp_67, hu_68, t_o_69, t_n_70, t_p_71, t_u_72⟩ := hv_53
                      show X _ _ _ _ _ _ _ _ _ [zV (((aos V.1.2.1 (pm V.2.2.2.2 ((V.2.2.2.2.length : Int)))).length : Int))] _
                      refine x_iret ho hr d_MO_look_138 ?_
                      have hoa : ocs V.1.2.1 (pm V.2.2.2.2 ((V.2.2.2.2.length : Int))) = aos V.1.2.1 (pm V.2.2.2.2 ((V.2.2.2.2.length : Int))) := aos_ocs (ne_nil (by omega))
                      have e : m_look V = (((aos V.1.2.1 (pm V.2.2.2.2 ((V.2.2.2.2.length : Int)))).length : Int), act (V.1.1, V.1.2.1, pm V.2.2.2.2 ((V.2.2.2.2.length : Int))) V) := by unfold m_look; rw [cif_f (fun q => q hp1), hpe, cif_f hkn, hoa]
                      exact ⟨by rw [e], by rw [e]; exact isO_mk t_o_69 t_n_70 k_56 k_57 k_58 k_59 t_p_71 t_u_72 k_60 k_61 k_62 k_63 a_k⟩
                    ·
                      obtain ⟨⟨w_f, w_a, w_r⟩, w_l, w_w⟩ := id l_x
                      refine x_aload_n ho 3 d_MO_look_109 rfl ?_
                      refine x_get 0 ho d_MO_look_110 cl_MO (by decide) g_757 l_o rfl ?_
                      refine x_sipush (z := 338) ho d_MO_look_113 (by decide) ?_
                      refine x_iload_n ho 0 d_MO_look_116 rfl ?_
                      refine x_iadd ho d_MO_look_117 ?_
                      refine x_aload_n ho 3 d_MO_look_118 rfl ?_
                      refine x_get 12 ho d_MO_look_119 cl_MO (by decide) g_769 l_o rfl ?_
                      refine x_iload_n ho 0 d_MO_look_122 rfl ?_
                      refine x_cald ho d_MO_look_123 w_a (by omega) (by omega) (by omega) ?_
                      refine x_eqI (b := gA V.2.2.2.2 k) (by exact w_r k (by omega) (by omega)) ?_
                      refine x_bipush (z := 97) ho d_MO_look_124 (by decide) ?_
                      refine x_isub ho d_MO_look_126 ?_
                      refine x_iast ho d_MO_look_127 l_d (by omega) (by omega) (by omega) (rA_in (by omega) (by omega)) (fun H_73 p_74 z_75 q_76 => ?_)
                      have k_77 := l_o.kept (q_76 _ (by omega))
                      have k_78 := l_h.kept (q_76 _ (by omega))
                      have k_79 := l_s.kept (q_76 _ (by omega))
                      have k_80 := l_t.kept (q_76 _ (by omega))
                      have k_81 := l_b.kept (q_76 _ (by omega))
                      have k_82 := l_p.kept (q_76 _ (by omega))
                      have k_83 := l_u.kept (q_76 _ (by omega))
                      have k_84 := l_x.kept (q_76 _ (by omega))
                      have k_85 := l_c.kept (q_76 _ (by omega))
                      have k_86 := l_e.kept (q_76 _ (by omega))
                      have k_87 := l_y.kept (q_76 _ (by omega))
                      have k_88 := w_a.kept (q_76 _ (by omega))
                      refine x_iinc (L' := [(3, zV (k + 1)), (2, zV s), (1, zV ((V.2.2.2.2.length : Int))), (0, .ref m)]) ho 0 d_MO_look_128 rfl rfl (by decide) rfl ?_
                      refine x_goto (tgt := 104) ho d_MO_look_131 (by decide) ?_
                      exact ih_104 (k + 1) (zU G (338 + k) (gA V.2.2.2.2 k - 97)) H_73 k_77 k_78 k_79 k_80 k_81 k_82 k_83 k_84 k_85 k_86 k_87 p_74 (by omega) (by rw [zU_n _ _ (by omega)]; exact hG) (by intro j a b; by_cases hj : j = k; rw [hj, zU_s]; rw [zU_n _ _ (by omega)]; exact hG2 j a (by omega)) (by intro j a; rw [zU_n _ _ (by omega)]; exact hG3 j a) (by omega)
                exact loop_104 _ 0 (zU g_f2 337 ((V.2.2.2.2.length : Int))) H_36 k_50 k_51 k_40 k_41 k_42 k_43 k_44 k_48 k_45 k_46 k_47 p_37 (by omega) (by exact zU_s _ _ _) (by exact fun j a b => by omega) (by intro j a; exact zU_n _ _ (by omega)) (Nat.lt_succ_self _)
              ·
                refine x_bipush (z := (-5)) ho d_MO_look_86 (by decide) ?_
                refine x_iret ho hr d_MO_look_88 ?_
                have hke : pm V.2.2.2.2 ((V.2.2.2.2.length : Int)) = V.1.2.2 := by rcases hs with h | h; exact li_ext (by rw [pm_len (by omega) (Int.le_refl _)]; exact h.2.1.symm) (fun j a b => by rw [pm_len (by omega) (Int.le_refl _)] at b; rw [pm_g a b (Int.le_refl _)]; exact (h.2.2 j a (by omega)).symm); omega
                have e : m_look V = (-5, V) := by unfold m_look; rw [cif_f (fun q => q hp1), cif_t (by rw [hpe]; exact hke)]
                exact ⟨by rw [e], by rw [e]; exact isO_mk t_o_15 k_4 k_5 k_6 k_7 k_8 k_9 k_10 t_x_16 k_11 k_12 k_13 a_k⟩
            ·
              refine x_iload_n ho 1 d_MO_look_44 rfl ?_
              refine x_if_eq (tgt := 82) ho d_MO_look_45 (by decide) (by omega) (fun c_45 => ?_) (fun c_45 => ?_)
              ·
                refine x_iload_n ho 1 d_MO_look_82 rfl ?_
                refine x_if_eq (tgt := 89) ho d_MO_look_83 (by decide) (by omega) (fun c_83 => ?_) (fun c_83 => ?_)
                ·
                  have hkn : ¬ pm V.2.2.2.2 ((V.2.2.2.2.length : Int)) = V.1.2.2 := by rcases hs with h | h; omega; exact h.2
                  refine x_aload_n ho 3 d_MO_look_89 rfl ?_
                  refine x_callV (rest := []) ho d_MO_look_90 yv_MO_record g_835 g_28 g_834 (c_MO_record M.2.1 D m V.2.2.1 o_fo o_di ((V.2.2.2.2.length : Int)) ((V.2.2.2.2.length : Int)) V.1 V.2.2.2.1 ) rfl rfl ⟨Nat.le_of_ble_eq_true rfl, Nat.le_of_ble_eq_true rfl⟩ ⟨Nat.le_of_ble_eq_true rfl, Nat.le_of_ble_eq_true rfl⟩ rfl rfl (Nat.le_of_ble_eq_true rfl) t_o_15 rfl rfl ⟨t_o_15, k_4, k_5⟩ (rA_sub (by omega) (by omega)) (fun v_89 H_91 hv_89 f_90 => ?_)
                  have k_92 := k_6.kept (f_90.2 _ k_6.lt (rA_no (by omega)))
                  have k_93 := k_7.kept (f_90.2 _ k_7.lt (rA_no (by omega)))
                  have k_94 := k_8.kept (f_90.2 _ k_8.lt (rA_no (by omega)))
                  have k_95 := k_9.kept (f_90.2 _ k_9.lt (rA_no (by omega)))
                  have k_96 := k_10.kept (f_90.2 _ k_10.lt (rA_no (by omega)))
                  have k_97 := k_11.kept (f_90.2 _ k_11.lt (rA_no (by omega)))
                  have k_98 := k_12.kept (f_90.2 _ k_12.lt (rA_no (by omega)))
                  have k_99 := k_13.kept (f_90.2 _ k_13.lt (rA_no (by omega)))
                  have k_100 := t_x_16.kept (f_90.2 _ t_x_16.lt (rA_no (by omega)))
                  have k_101 := x_a.kept (f_90.2 _ x_a.lt (rA_no (by omega)))
                  obtain ⟨rfl, t_o_102, t_n_103, t_h_104⟩ := hv_89
                  show X _ _ _ _ _ _ _ _ _ [] _
                  obtain ⟨g_f2, g_a2, g_r2, g_p2⟩ := id t_n_103
                  refine x_aload_n ho 3 d_MO_look_93 rfl ?_
                  refine x_get 0 ho d_MO_look_94 cl_MO (by decide) g_757 t_o_102 rfl ?_
                  refine x_sipush (z := 337) ho d_MO_look_97 (by decide) ?_
                  refine x_iload_n ho 2 d_MO_look_100 rfl ?_
                  refine x_iast ho d_MO_look_101 g_a2 (by omega) (by omega) (by omega) (rA_in (by omega) (by omega)) (fun H_105 p_106 z_107 q_108 => ?_)
                  have k_109 := k_92.kept (q_108 _ (by omega))
                  have k_110 := k_93.kept (q_108 _ (by omega))
                  have k_111 := k_94.kept (q_108 _ (by omega))
                  have k_112 := k_95.kept (q_108 _ (by omega))
                  have k_113 := k_96.kept (q_108 _ (by omega))
                  have k_114 := k_97.kept (q_108 _ (by omega))
                  have k_115 := k_98.kept (q_108 _ (by omega))
                  have k_116 := k_99.kept (q_108 _ (by omega))
                  have k_117 := k_100.kept (q_108 _ (by omega))
                  have k_118 := k_101.kept (q_108 _ (by omega))
                  have k_119 := t_o_102.kept (q_108 _ (by omega))
                  have k_120 := t_h_104.kept (q_108 _ (by omega))
                  refine x_iconst ho d_MO_look_102 ?_
                  refine x_istore_n (L' := [(3, zV 0), (2, zV s), (1, zV ((V.2.2.2.2.length : Int))), (0, .ref m)]) ho d_MO_look_103 (by decide) rfl ?_
                  have loop_104 : ∀ (kk : Nat) (k : Int) (G : Int → Int) (H_121 : Heap) (l_o : At D H_121 m (oO 11 [.ref (m + 1), .ref (m + 2), zV (((recH V.2.2.2.1 V.1).length : Int)), .ref (m + 3), zV V.2.2.1, .ref (m + 4), .ref (m + 5), .ref (m + 6), zV o_fo, .ref (m + 7), zV o_di, zV ((V.2.2.2.2.length : Int)), .ref (m + 8), zV ((V.2.2.2.2.length : Int)), .ref (m + 9), .ref (m + 10), .ref (m + 11)])) (l_h : isHm D H_121 (m + 2) (recH V.2.2.2.1 V.1)) (l_s : isSl D H_121 (m + 3) V.2.2.1 V.2.1) (l_t : At D H_121 (m + 4) (oI D 301 o_t)) (l_b : At D H_121 (m + 5) (oI D 301 o_b)) (l_p : At D H_121 (m + 6) (oI D 300 o_p)) (l_u : At D H_121 (m + 7) (oI D 300 o_u)) (l_x : isTx D H_121 (m + 8) V.2.2.2.2) (l_c : At D H_121 (m + 9) (oI D 16 o_c)) (l_e : At D H_121 (m + 10) (oI D 16 o_e)) (l_y : At D H_121 (m + 11) (oI D 4 o_y)) (l_d : At D H_121 (m + 1) (oI D 358 G)) (k0 : 0 ≤ k ∧ k ≤ (V.2.2.2.2.length : Int)) (hG : G 337 = (V.2.2.2.2.length : Int)) (hG2 : ∀ j : Int, 0 ≤ j → j < k → G (338 + j) = gA V.2.2.2.2 j - 97) (hG3 : ∀ j : Int, j < 337 → G j = g_f2 j), ((V.2.2.2.2.length : Int) - k).toNat < kk → X M ({ frames := 3, cells := 0, slots := 0, locals := 67 } : Room) 4 (rA m (m + 12)) 0 0 (Qof M (rA m (m + 12)) (q_MO_look D m V) 0 0) 104 [(3, zV k), (2, zV s), (1, zV ((V.2.2.2.2.length : Int))), (0, .ref m)] [] H_121 := by
                    intro kk
                    induction kk with
                    | zero => intro k G H_121 l_o l_h l_s l_t l_b l_p l_u l_x l_c l_e l_y l_d k0 hG hG2 hG3 hk; exact absurd hk (Nat.not_lt_zero _)
                    | succ kk ih_104 =>
                      intro k G H_121 l_o l_h l_s l_t l_b l_p l_u l_x l_c l_e l_y l_d k0 hG hG2 hG3 hk_104
                      refine x_iload_n ho 0 d_MO_look_104 rfl ?_
                      refine x_iload_n ho 2 d_MO_look_105 rfl ?_
                      refine x_icmp_ge (tgt := 134) ho d_MO_look_106 (by decide) (by omega) (by omega) (fun c_106 => ?_) (fun c_106 => ?_)
                      ·
                        have hpz := pm_len (L := V.2.2.2.2) (k := (V.2.2.2.2.length : Int)) (by omega) (Int.le_refl _)
                        have hN : isN D H_121 (m + 1) (V.1.1, V.1.2.1, pm V.2.2.2.2 ((V.2.2.2.2.length : Int))) := ⟨_, l_d, rp_look g_r2 g_p2 (by rw [hpz]; exact hG) (fun j a b => by rw [hpz] at b; rw [pm_g a b (Int.le_refl _)]; exact hG2 j a (by omega)) hG3, n_1, n_2, by show ((pm V.2.2.2.2 ((V.2.2.2.2.length : Int))).length : Int) ≤ 20; omega, pm_w hpt⟩
                        refine x_aload_n ho 3 d_MO_look_134 rfl ?_
                        refine x_callV (rest := []) ho d_MO_look_135 yv_MO_finds g_896 g_37 g_895 (c_MO_finds M.2.1 D m (((recH V.2.2.2.1 V.1).length : Int)) V.2.2.1 o_fo o_di ((V.2.2.2.2.length : Int)) ((V.2.2.2.2.length : Int)) (V.1.1, V.1.2.1, pm V.2.2.2.2 ((V.2.2.2.2.length : Int))) o_p o_u ) rfl rfl ⟨Nat.le_of_ble_eq_true rfl, Nat.le_of_ble_eq_true rfl⟩ ⟨Nat.le_of_ble_eq_true rfl, Nat.le_of_ble_eq_true rfl⟩ rfl rfl (Nat.le_of_ble_eq_true rfl) l_o rfl rfl ⟨l_o, hN, l_p, l_u⟩ (fun z hz => by rcases hz with ⟨z1, z2⟩ | ⟨z1, z2⟩ <;> exact rA_in (by omega) (by omega)) (fun v_122 H_124 hv_122 f_123 => ?_)
                        have k_125 := l_h.kept (f_123.2 _ l_h.lt (fun z => by rcases z with ⟨z1, z2⟩ | ⟨z1, z2⟩ <;> omega))
                        have k_126 := l_s.kept (f_123.2 _ l_s.lt (fun z => by rcases z with ⟨z1, z2⟩ | ⟨z1, z2⟩ <;> omega))
                        have k_127 := l_t.kept (f_123.2 _ l_t.lt (fun z => by rcases z with ⟨z1, z2⟩ | ⟨z1, z2⟩ <;> omega))
                        have k_128 := l_b.kept (f_123.2 _ l_b.lt (fun z => by rcases z with ⟨z1, z2⟩ | ⟨z1, z2⟩ <;> omega))
                        have k_129 := l_x.kept (f_123.2 _ l_x.lt (fun z => by rcases z with ⟨z1, z2⟩ | ⟨z1, z2⟩ <;> omega))
                        have k_130 := l_c.kept (f_123.2 _ l_c.lt (fun z => by rcases z with ⟨z1, z2⟩ | ⟨z1, z2⟩ <;> omega))
                        have k_131 := l_e.kept (f_123.2 _ l_e.lt (fun z => by rcases z with ⟨z1, z2⟩ | ⟨z1, z2⟩ <;> omega))
                        have k_132 := l_y.kept (f_123.2 _ l_y.lt (fun z => by rcases z with ⟨z1, z2⟩ | ⟨z1, z2⟩ <;> omega))
                        obtain ⟨p1_133, u1_134, rfl, hb_135, hp_136, hu_137, t_o_138, t_n_139, t_p_140, t_u_141⟩ := hv_122
                        show X _ _ _ _ _ _ _ _ _ [zV (((aos V.1.2.1 (pm V.2.2.2.2 ((V.2.2.2.2.length : Int)))).length : Int))] _
                        refine x_iret ho hr d_MO_look_138 ?_
                        have hoa : ocs V.1.2.1 (pm V.2.2.2.2 ((V.2.2.2.2.length : Int))) = aos V.1.2.1 (pm V.2.2.2.2 ((V.2.2.2.2.length : Int))) := aos_ocs (ne_nil (by omega))
                        have e : m_look V = (((aos V.1.2.1 (pm V.2.2.2.2 ((V.2.2.2.2.length : Int)))).length : Int), act (V.1.1, V.1.2.1, pm V.2.2.2.2 ((V.2.2.2.2.length : Int))) V) := by unfold m_look; rw [cif_f (fun q => q hp1), hpe, cif_f hkn, hoa]
                        exact ⟨by rw [e], by rw [e]; exact isO_mk t_o_138 t_n_139 k_125 k_126 k_127 k_128 t_p_140 t_u_141 k_129 k_130 k_131 k_132 a_k⟩
                      ·
                        obtain ⟨⟨w_f, w_a, w_r⟩, w_l, w_w⟩ := id l_x
                        refine x_aload_n ho 3 d_MO_look_109 rfl ?_
                        refine x_get 0 ho d_MO_look_110 cl_MO (by decide) g_757 l_o rfl ?_
                        refine x_sipush (z := 338) ho d_MO_look_113 (by decide) ?_
                        refine x_iload_n ho 0 d_MO_look_116 rfl ?_
                        refine x_iadd ho d_MO_look_117 ?_
                        refine x_aload_n ho 3 d_MO_look_118 rfl ?_
                        refine x_get 12 ho d_MO_look_119 cl_MO (by decide) g_769 l_o rfl ?_
                        refine x_iload_n ho 0 d_MO_look_122 rfl ?_
                        refine x_cald ho d_MO_look_123 w_a (by omega) (by omega) (by omega) ?_
                        refine x_eqI (b := gA V.2.2.2.2 k) (by exact w_r k (by omega) (by omega)) ?_
                        refine x_bipush (z := 97) ho d_MO_look_124 (by decide) ?_
                        refine x_isub ho d_MO_look_126 ?_
                        refine x_iast ho d_MO_look_127 l_d (by omega) (by omega) (by omega) (rA_in (by omega) (by omega)) (fun H_142 p_143 z_144 q_145 => ?_)
                        have k_146 := l_o.kept (q_145 _ (by omega))
                        have k_147 := l_h.kept (q_145 _ (by omega))
                        have k_148 := l_s.kept (q_145 _ (by omega))
                        have k_149 := l_t.kept (q_145 _ (by omega))
                        have k_150 := l_b.kept (q_145 _ (by omega))
                        have k_151 := l_p.kept (q_145 _ (by omega))
                        have k_152 := l_u.kept (q_145 _ (by omega))
                        have k_153 := l_x.kept (q_145 _ (by omega))
                        have k_154 := l_c.kept (q_145 _ (by omega))
                        have k_155 := l_e.kept (q_145 _ (by omega))
                        have k_156 := l_y.kept (q_145 _ (by omega))
                        have k_157 := w_a.kept (q_145 _ (by omega))
                        refine x_iinc (L' := [(3, zV (k + 1)), (2, zV s), (1, zV ((V.2.2.2.2.length : Int))), (0, .ref m)]) ho 0 d_MO_look_128 rfl rfl (by decide) rfl ?_
                        refine x_goto (tgt := 104) ho d_MO_look_131 (by decide) ?_
                        exact ih_104 (k + 1) (zU G (338 + k) (gA V.2.2.2.2 k - 97)) H_142 k_146 k_147 k_148 k_149 k_150 k_151 k_152 k_153 k_154 k_155 k_156 p_143 (by omega) (by rw [zU_n _ _ (by omega)]; exact hG) (by intro j a b; by_cases hj : j = k; rw [hj, zU_s]; rw [zU_n _ _ (by omega)]; exact hG2 j a (by omega)) (by intro j a; rw [zU_n _ _ (by omega)]; exact hG3 j a) (by omega)
                  exact loop_104 _ 0 (zU g_f2 337 ((V.2.2.2.2.length : Int))) H_105 k_119 k_120 k_109 k_110 k_111 k_112 k_113 k_117 k_114 k_115 k_116 p_106 (by omega) (by exact zU_s _ _ _) (by exact fun j a b => by omega) (by intro j a; exact zU_n _ _ (by omega)) (Nat.lt_succ_self _)
                ·
                  omega
              ·
                have h_1 : s = 1 := by omega
                have h_2 : (V.1.2.2.length : Int) = (V.2.2.2.2.length : Int) ∧ ∀ j : Int, 0 ≤ j → j < k → gA V.1.2.2 j = gA V.2.2.2.2 j - 97 := by rcases hs with h | h; exact h.2; omega
                have h_3 := gA_r n_3.2 k
                have h_4 := ca_r x_w (z := k) (by omega) (by omega)
                refine x_aload_n ho 3 d_MO_look_48 rfl ?_
                refine x_get 0 ho d_MO_look_49 cl_MO (by decide) g_757 t_o_15 rfl ?_
                refine x_sipush (z := 338) ho d_MO_look_52 (by decide) ?_
                refine x_iload_n ho 0 d_MO_look_55 rfl ?_
                refine x_iadd ho d_MO_look_56 ?_
                refine x_iald ho d_MO_look_57 g_a (by omega) (by omega) (by omega) ?_
                refine x_eqI (b := gA V.1.2.2 k) (by exact g_r.2.2.2 k (by omega) (by omega)) ?_
                refine x_aload_n ho 3 d_MO_look_58 rfl ?_
                refine x_get 12 ho d_MO_look_59 cl_MO (by decide) g_769 t_o_15 rfl ?_
                refine x_iload_n ho 0 d_MO_look_62 rfl ?_
                refine x_cald ho d_MO_look_63 x_a (by omega) (by omega) (by omega) ?_
                refine x_eqI (b := gA V.2.2.2.2 k) (by exact x_r k (by omega) (by omega)) ?_
                refine x_bipush (z := 97) ho d_MO_look_64 (by decide) ?_
                refine x_isub ho d_MO_look_66 ?_
                refine x_icmp_ne (tgt := 74) ho d_MO_look_67 (by decide) (by omega) (by omega) (fun c_67 => ?_) (fun c_67 => ?_)
                ·
                  refine x_iconst ho d_MO_look_74 ?_
                  refine x_istore_n (L' := [(2, zV 0), (3, zV k), (1, zV ((V.2.2.2.2.length : Int))), (0, .ref m)]) ho d_MO_look_75 (by decide) rfl ?_
                  refine x_iinc (L' := [(3, zV (k + 1)), (2, zV 0), (1, zV ((V.2.2.2.2.length : Int))), (0, .ref m)]) ho 1 d_MO_look_76 rfl rfl (by decide) rfl ?_
                  refine x_goto (tgt := 39) ho d_MO_look_79 (by decide) ?_
                  exact ih_39 (k + 1) 0 (by omega) (by omega) (by exact Or.inr ⟨rfl, fun q => c_67 (by rw [← q]; exact pm_g (by omega) (by omega) (Int.le_refl _))⟩) (by omega)
                ·
                  refine x_iconst ho d_MO_look_70 ?_
                  refine x_goto (tgt := 75) ho d_MO_look_71 (by decide) ?_
                  refine x_istore_n (L' := [(2, zV 1), (3, zV k), (1, zV ((V.2.2.2.2.length : Int))), (0, .ref m)]) ho d_MO_look_75 (by decide) rfl ?_
                  refine x_iinc (L' := [(3, zV (k + 1)), (2, zV 1), (1, zV ((V.2.2.2.2.length : Int))), (0, .ref m)]) ho 1 d_MO_look_76 rfl rfl (by decide) rfl ?_
                  refine x_goto (tgt := 39) ho d_MO_look_79 (by decide) ?_
                  exact ih_39 (k + 1) 1 (by omega) (by omega) (by exact Or.inl ⟨rfl, h_2.1, fun j a b => by rcases (show j < k ∨ j = k by omega) with z | z; exact h_2.2 j a z; rw [z]; exact c_67⟩) (by omega)
        exact loop_39 _ 0 0 (by omega) (by omega) (by exact Or.inr ⟨rfl, fun q => c_28 (by rw [← q, pm_len (by omega) (Int.le_refl _)])⟩) (Nat.lt_succ_self _)
      ·
        refine x_iconst ho d_MO_look_31 ?_
        refine x_goto (tgt := 36) ho d_MO_look_32 (by decide) ?_
        refine x_istore_n (L' := [(2, zV 1), (1, zV ((V.2.2.2.2.length : Int))), (0, .ref m)]) ho d_MO_look_36 (by decide) rfl ?_
        refine x_iconst ho d_MO_look_37 ?_
        refine x_istore_n (L' := [(3, zV 0), (2, zV 1), (1, zV ((V.2.2.2.2.length : Int))), (0, .ref m)]) ho d_MO_look_38 (by decide) rfl ?_
        have loop_39 : ∀ (kk : Nat) (k : Int) (s : Int) (k0 : 0 ≤ k ∧ k ≤ (V.2.2.2.2.length : Int)) (s1 : s = 0 ∨ s = 1) (hs : (s = 1 ∧ (V.1.2.2.length : Int) = (V.2.2.2.2.length : Int) ∧ ∀ j : Int, 0 ≤ j → j < k → gA V.1.2.2 j = gA V.2.2.2.2 j - 97) ∨ (s = 0 ∧ ¬ pm V.2.2.2.2 ((V.2.2.2.2.length : Int)) = V.1.2.2)), ((V.2.2.2.2.length : Int) - k).toNat < kk → X M ({ frames := 3, cells := 0, slots := 0, locals := 67 } : Room) 4 (rA m (m + 12)) 0 0 (Qof M (rA m (m + 12)) (q_MO_look D m V) 0 0) 39 [(3, zV k), (2, zV s), (1, zV ((V.2.2.2.2.length : Int))), (0, .ref m)] [] H_3 := by
          intro kk
          induction kk with
          | zero => intro k s k0 s1 hs hk; exact absurd hk (Nat.not_lt_zero _)
          | succ kk ih_39 =>
            intro k s k0 s1 hs hk_39
            refine x_iload_n ho 0 d_MO_look_39 rfl ?_
            refine x_iload_n ho 2 d_MO_look_40 rfl ?_
            refine x_icmp_ge (tgt := 82) ho d_MO_look_41 (by decide) (by omega) (by omega) (fun c_41 => ?_) (fun c_41 => ?_)
            ·
              refine x_iload_n ho 1 d_MO_look_82 rfl ?_
              refine x_if_eq (tgt := 89) ho d_MO_look_83 (by decide) (by omega) (fun c_83 => ?_) (fun c_83 => ?_)
              ·
                have hkn : ¬ pm V.2.2.2.2 ((V.2.2.2.2.length : Int)) = V.1.2.2 := by rcases hs with h | h; omega; exact h.2
                refine x_aload_n ho 3 d_MO_look_89 rfl ?_
                refine x_callV (rest := []) ho d_MO_look_90 yv_MO_record g_835 g_28 g_834 (c_MO_record M.2.1 D m V.2.2.1 o_fo o_di ((V.2.2.2.2.length : Int)) ((V.2.2.2.2.length : Int)) V.1 V.2.2.2.1 ) rfl rfl ⟨Nat.le_of_ble_eq_true rfl, Nat.le_of_ble_eq_true rfl⟩ ⟨Nat.le_of_ble_eq_true rfl, Nat.le_of_ble_eq_true rfl⟩ rfl rfl (Nat.le_of_ble_eq_true rfl) t_o_15 rfl rfl ⟨t_o_15, k_4, k_5⟩ (rA_sub (by omega) (by omega)) (fun v_158 H_160 hv_158 f_159 => ?_)
                have k_161 := k_6.kept (f_159.2 _ k_6.lt (rA_no (by omega)))
                have k_162 := k_7.kept (f_159.2 _ k_7.lt (rA_no (by omega)))
                have k_163 := k_8.kept (f_159.2 _ k_8.lt (rA_no (by omega)))
                have k_164 := k_9.kept (f_159.2 _ k_9.lt (rA_no (by omega)))
                have k_165 := k_10.kept (f_159.2 _ k_10.lt (rA_no (by omega)))
                have k_166 := k_11.kept (f_159.2 _ k_11.lt (rA_no (by omega)))
                have k_167 := k_12.kept (f_159.2 _ k_12.lt (rA_no (by omega)))
                have k_168 := k_13.kept (f_159.2 _ k_13.lt (rA_no (by omega)))
                have k_169 := t_x_16.kept (f_159.2 _ t_x_16.lt (rA_no (by omega)))
                have k_170 := x_a.kept (f_159.2 _ x_a.lt (rA_no (by omega)))
                obtain ⟨rfl, t_o_171, t_n_172, t_h_173⟩ := hv_158
                show X _ _ _ _ _ _ _ _ _ [] _
                obtain ⟨g_f2, g_a2, g_r2, g_p2⟩ := id t_n_172
                refine x_aload_n ho 3 d_MO_look_93 rfl ?_
                refine x_get 0 ho d_MO_look_94 cl_MO (by decide) g_757 t_o_171 rfl ?_
                refine x_sipush (z := 337) ho d_MO_look_97 (by decide) ?_
                refine x_iload_n ho 2 d_MO_look_100 rfl ?_
                refine x_iast ho d_MO_look_101 g_a2 (by omega) (by omega) (by omega) (rA_in (by omega) (by omega)) (fun H_174 p_175 z_176 q_177 => ?_)
                have k_178 := k_161.kept (q_177 _ (by omega))
                have k_179 := k_162.kept (q_177 _ (by omega))
                have k_180 := k_163.kept (q_177 _ (by omega))
                have k_181 := k_164.kept (q_177 _ (by omega))
                have k_182 := k_165.kept (q_177 _ (by omega))
                have k_183 := k_166.kept (q_177 _ (by omega))
                have k_184 := k_167.kept (q_177 _ (by omega))
                have k_185 := k_168.kept (q_177 _ (by omega))
                have k_186 := k_169.kept (q_177 _ (by omega))
                have k_187 := k_170.kept (q_177 _ (by omega))
                have k_188 := t_o_171.kept (q_177 _ (by omega))
                have k_189 := t_h_173.kept (q_177 _ (by omega))
                refine x_iconst ho d_MO_look_102 ?_
                refine x_istore_n (L' := [(3, zV 0), (2, zV s), (1, zV ((V.2.2.2.2.length : Int))), (0, .ref m)]) ho d_MO_look_103 (by decide) rfl ?_
                have loop_104 : ∀ (kk : Nat) (k : Int) (G : Int → Int) (H_190 : Heap) (l_o : At D H_190 m (oO 11 [.ref (m + 1), .ref (m + 2), zV (((recH V.2.2.2.1 V.1).length : Int)), .ref (m + 3), zV V.2.2.1, .ref (m + 4), .ref (m + 5), .ref (m + 6), zV o_fo, .ref (m + 7), zV o_di, zV ((V.2.2.2.2.length : Int)), .ref (m + 8), zV ((V.2.2.2.2.length : Int)), .ref (m + 9), .ref (m + 10), .ref (m + 11)])) (l_h : isHm D H_190 (m + 2) (recH V.2.2.2.1 V.1)) (l_s : isSl D H_190 (m + 3) V.2.2.1 V.2.1) (l_t : At D H_190 (m + 4) (oI D 301 o_t)) (l_b : At D H_190 (m + 5) (oI D 301 o_b)) (l_p : At D H_190 (m + 6) (oI D 300 o_p)) (l_u : At D H_190 (m + 7) (oI D 300 o_u)) (l_x : isTx D H_190 (m + 8) V.2.2.2.2) (l_c : At D H_190 (m + 9) (oI D 16 o_c)) (l_e : At D H_190 (m + 10) (oI D 16 o_e)) (l_y : At D H_190 (m + 11) (oI D 4 o_y)) (l_d : At D H_190 (m + 1) (oI D 358 G)) (k0 : 0 ≤ k ∧ k ≤ (V.2.2.2.2.length : Int)) (hG : G 337 = (V.2.2.2.2.length : Int)) (hG2 : ∀ j : Int, 0 ≤ j → j < k → G (338 + j) = gA V.2.2.2.2 j - 97) (hG3 : ∀ j : Int, j < 337 → G j = g_f2 j), ((V.2.2.2.2.length : Int) - k).toNat < kk → X M ({ frames := 3, cells := 0, slots := 0, locals := 67 } : Room) 4 (rA m (m + 12)) 0 0 (Qof M (rA m (m + 12)) (q_MO_look D m V) 0 0) 104 [(3, zV k), (2, zV s), (1, zV ((V.2.2.2.2.length : Int))), (0, .ref m)] [] H_190 := by
                  intro kk
                  induction kk with
                  | zero => intro k G H_190 l_o l_h l_s l_t l_b l_p l_u l_x l_c l_e l_y l_d k0 hG hG2 hG3 hk; exact absurd hk (Nat.not_lt_zero _)
                  | succ kk ih_104 =>
                    intro k G H_190 l_o l_h l_s l_t l_b l_p l_u l_x l_c l_e l_y l_d k0 hG hG2 hG3 hk_104
                    refine x_iload_n ho 0 d_MO_look_104 rfl ?_
                    refine x_iload_n ho 2 d_MO_look_105 rfl ?_
                    refine x_icmp_ge (tgt := 134) ho d_MO_look_106 (by decide) (by omega) (by omega) (fun c_106 => ?_) (fun c_106 => ?_)
                    ·
                      have hpz := pm_len (L := V.2.2.2.2) (k := (V.2.2.2.2.length : Int)) (by omega) (Int.le_refl _)
                      have hN : isN D H_190 (m + 1) (V.1.1, V.1.2.1, pm V.2.2.2.2 ((V.2.2.2.2.length : Int))) := ⟨_, l_d, rp_look g_r2 g_p2 (by rw [hpz]; exact hG) (fun j a b => by rw [hpz] at b; rw [pm_g a b (Int.le_refl _)]; exact hG2 j a (by omega)) hG3, n_1, n_2, by show ((pm V.2.2.2.2 ((V.2.2.2.2.length : Int))).length : Int) ≤ 20; omega, pm_w hpt⟩
                      refine x_aload_n ho 3 d_MO_look_134 rfl ?_
                      refine x_callV (rest := []) ho d_MO_look_135 yv_MO_finds g_896 g_37 g_895 (c_MO_finds M.2.1 D m (((recH V.2.2.2.1 V.1).length : Int)) V.2.2.1 o_fo o_di ((V.2.2.2.2.length : Int)) ((V.2.2.2.2.length : Int)) (V.1.1, V.1.2.1, pm V.2.2.2.2 ((V.2.2.2.2.length : Int))) o_p o_u ) rfl rfl ⟨Nat.le_of_ble_eq_true rfl, Nat.le_of_ble_eq_true rfl⟩ ⟨Nat.le_of_ble_eq_true rfl, Nat.le_of_ble_eq_true rfl⟩ rfl rfl (Nat.le_of_ble_eq_true rfl) l_o rfl rfl ⟨l_o, hN, l_p, l_u⟩ (fun z hz => by rcases hz with ⟨z1, z2⟩ | ⟨z1, z2⟩ <;> exact rA_in (by omega) (by omega)) (fun v_191 H_193 hv_191 f_192 => ?_)
                      have k_194 := l_h.kept (f_192.2 _ l_h.lt (fun z => by rcases z with ⟨z1, z2⟩ | ⟨z1, z2⟩ <;> omega))
                      have k_195 := l_s.kept (f_192.2 _ l_s.lt (fun z => by rcases z with ⟨z1, z2⟩ | ⟨z1, z2⟩ <;> omega))
                      have k_196 := l_t.kept (f_192.2 _ l_t.lt (fun z => by rcases z with ⟨z1, z2⟩ | ⟨z1, z2⟩ <;> omega))
                      have k_197 := l_b.kept (f_192.2 _ l_b.lt (fun z => by rcases z with ⟨z1, z2⟩ | ⟨z1, z2⟩ <;> omega))
                      have k_198 := l_x.kept (f_192.2 _ l_x.lt (fun z => by rcases z with ⟨z1, z2⟩ | ⟨z1, z2⟩ <;> omega))
                      have k_199 := l_c.kept (f_192.2 _ l_c.lt (fun z => by rcases z with ⟨z1, z2⟩ | ⟨z1, z2⟩ <;> omega))
                      have k_200 := l_e.kept (f_192.2 _ l_e.lt (fun z => by rcases z with ⟨z1, z2⟩ | ⟨z1, z2⟩ <;> omega))
                      have k_201 := l_y.kept (f_192.2 _ l_y.lt (fun z => by rcases z with ⟨z1, z2⟩ | ⟨z1, z2⟩ <;> omega))
                      obtain ⟨p1_202, u1_203, rfl, hb_204, hp_205, hu_206, t_o_207, t_n_208, t_p_209, t_u_210⟩ := hv_191
                      show X _ _ _ _ _ _ _ _ _ [zV (((aos V.1.2.1 (pm V.2.2.2.2 ((V.2.2.2.2.length : Int)))).length : Int))] _
                      refine x_iret ho hr d_MO_look_138 ?_
                      have hoa : ocs V.1.2.1 (pm V.2.2.2.2 ((V.2.2.2.2.length : Int))) = aos V.1.2.1 (pm V.2.2.2.2 ((V.2.2.2.2.length : Int))) := aos_ocs (ne_nil (by omega))
                      have e : m_look V = (((aos V.1.2.1 (pm V.2.2.2.2 ((V.2.2.2.2.length : Int)))).length : Int), act (V.1.1, V.1.2.1, pm V.2.2.2.2 ((V.2.2.2.2.length : Int))) V) := by unfold m_look; rw [cif_f (fun q => q hp1), hpe, cif_f hkn, hoa]
                      exact ⟨by rw [e], by rw [e]; exact isO_mk t_o_207 t_n_208 k_194 k_195 k_196 k_197 t_p_209 t_u_210 k_198 k_199 k_200 k_201 a_k⟩
                    ·
                      obtain ⟨⟨w_f, w_a, w_r⟩, w_l, w_w⟩ := id l_x
                      refine x_aload_n ho 3 d_MO_look_109 rfl ?_
                      refine x_get 0 ho d_MO_look_110 cl_MO (by decide) g_757 l_o rfl ?_
                      refine x_sipush (z := 338) ho d_MO_look_113 (by decide) ?_
                      refine x_iload_n ho 0 d_MO_look_116 rfl ?_
                      refine x_iadd ho d_MO_look_117 ?_
                      refine x_aload_n ho 3 d_MO_look_118 rfl ?_
                      refine x_get 12 ho d_MO_look_119 cl_MO (by decide) g_769 l_o rfl ?_
                      refine x_iload_n ho 0 d_MO_look_122 rfl ?_
                      refine x_cald ho d_MO_look_123 w_a (by omega) (by omega) (by omega) ?_
                      refine x_eqI (b := gA V.2.2.2.2 k) (by exact w_r k (by omega) (by omega)) ?_
                      refine x_bipush (z := 97) ho d_MO_look_124 (by decide) ?_
                      refine x_isub ho d_MO_look_126 ?_
                      refine x_iast ho d_MO_look_127 l_d (by omega) (by omega) (by omega) (rA_in (by omega) (by omega)) (fun H_211 p_212 z_213 q_214 => ?_)
                      have k_215 := l_o.kept (q_214 _ (by omega))
                      have k_216 := l_h.kept (q_214 _ (by omega))
                      have k_217 := l_s.kept (q_214 _ (by omega))
                      have k_218 := l_t.kept (q_214 _ (by omega))
                      have k_219 := l_b.kept (q_214 _ (by omega))
                      have k_220 := l_p.kept (q_214 _ (by omega))
                      have k_221 := l_u.kept (q_214 _ (by omega))
                      have k_222 := l_x.kept (q_214 _ (by omega))
                      have k_223 := l_c.kept (q_214 _ (by omega))
                      have k_224 := l_e.kept (q_214 _ (by omega))
                      have k_225 := l_y.kept (q_214 _ (by omega))
                      have k_226 := w_a.kept (q_214 _ (by omega))
                      refine x_iinc (L' := [(3, zV (k + 1)), (2, zV s), (1, zV ((V.2.2.2.2.length : Int))), (0, .ref m)]) ho 0 d_MO_look_128 rfl rfl (by decide) rfl ?_
                      refine x_goto (tgt := 104) ho d_MO_look_131 (by decide) ?_
                      exact ih_104 (k + 1) (zU G (338 + k) (gA V.2.2.2.2 k - 97)) H_211 k_215 k_216 k_217 k_218 k_219 k_220 k_221 k_222 k_223 k_224 k_225 p_212 (by omega) (by rw [zU_n _ _ (by omega)]; exact hG) (by intro j a b; by_cases hj : j = k; rw [hj, zU_s]; rw [zU_n _ _ (by omega)]; exact hG2 j a (by omega)) (by intro j a; rw [zU_n _ _ (by omega)]; exact hG3 j a) (by omega)
                exact loop_104 _ 0 (zU g_f2 337 ((V.2.2.2.2.length : Int))) H_174 k_188 k_189 k_178 k_179 k_180 k_181 k_182 k_186 k_183 k_184 k_185 p_175 (by omega) (by exact zU_s _ _ _) (by exact fun j a b => by omega) (by intro j a; exact zU_n _ _ (by omega)) (Nat.lt_succ_self _)
              ·
                refine x_bipush (z := (-5)) ho d_MO_look_86 (by decide) ?_
                refine x_iret ho hr d_MO_look_88 ?_
                have hke : pm V.2.2.2.2 ((V.2.2.2.2.length : Int)) = V.1.2.2 := by rcases hs with h | h; exact li_ext (by rw [pm_len (by omega) (Int.le_refl _)]; exact h.2.1.symm) (fun j a b => by rw [pm_len (by omega) (Int.le_refl _)] at b; rw [pm_g a b (Int.le_refl _)]; exact (h.2.2 j a (by omega)).symm); omega
                have e : m_look V = (-5, V) := by unfold m_look; rw [cif_f (fun q => q hp1), cif_t (by rw [hpe]; exact hke)]
                exact ⟨by rw [e], by rw [e]; exact isO_mk t_o_15 k_4 k_5 k_6 k_7 k_8 k_9 k_10 t_x_16 k_11 k_12 k_13 a_k⟩
            ·
              refine x_iload_n ho 1 d_MO_look_44 rfl ?_
              refine x_if_eq (tgt := 82) ho d_MO_look_45 (by decide) (by omega) (fun c_45 => ?_) (fun c_45 => ?_)
              ·
                refine x_iload_n ho 1 d_MO_look_82 rfl ?_
                refine x_if_eq (tgt := 89) ho d_MO_look_83 (by decide) (by omega) (fun c_83 => ?_) (fun c_83 => ?_)
                ·
                  have hkn : ¬ pm V.2.2.2.2 ((V.2.2.2.2.length : Int)) = V.1.2.2 := by rcases hs with h | h; omega; exact h.2
                  refine x_aload_n ho 3 d_MO_look_89 rfl ?_
                  refine x_callV (rest := []) ho d_MO_look_90 yv_MO_record g_835 g_28 g_834 (c_MO_record M.2.1 D m V.2.2.1 o_fo o_di ((V.2.2.2.2.length : Int)) ((V.2.2.2.2.length : Int)) V.1 V.2.2.2.1 ) rfl rfl ⟨Nat.le_of_ble_eq_true rfl, Nat.le_of_ble_eq_true rfl⟩ ⟨Nat.le_of_ble_eq_true rfl, Nat.le_of_ble_eq_true rfl⟩ rfl rfl (Nat.le_of_ble_eq_true rfl) t_o_15 rfl rfl ⟨t_o_15, k_4, k_5⟩ (rA_sub (by omega) (by omega)) (fun v_227 H_229 hv_227 f_228 => ?_)
                  have k_230 := k_6.kept (f_228.2 _ k_6.lt (rA_no (by omega)))
                  have k_231 := k_7.kept (f_228.2 _ k_7.lt (rA_no (by omega)))
                  have k_232 := k_8.kept (f_228.2 _ k_8.lt (rA_no (by omega)))
                  have k_233 := k_9.kept (f_228.2 _ k_9.lt (rA_no (by omega)))
                  have k_234 := k_10.kept (f_228.2 _ k_10.lt (rA_no (by omega)))
                  have k_235 := k_11.kept (f_228.2 _ k_11.lt (rA_no (by omega)))
                  have k_236 := k_12.kept (f_228.2 _ k_12.lt (rA_no (by omega)))
                  have k_237 := k_13.kept (f_228.2 _ k_13.lt (rA_no (by omega)))
                  have k_238 := t_x_16.kept (f_228.2 _ t_x_16.lt (rA_no (by omega)))
                  have k_239 := x_a.kept (f_228.2 _ x_a.lt (rA_no (by omega)))
                  obtain ⟨rfl, t_o_240, t_n_241, t_h_242⟩ := hv_227
                  show X _ _ _ _ _ _ _ _ _ [] _
                  obtain ⟨g_f2, g_a2, g_r2, g_p2⟩ := id t_n_241
                  refine x_aload_n ho 3 d_MO_look_93 rfl ?_
                  refine x_get 0 ho d_MO_look_94 cl_MO (by decide) g_757 t_o_240 rfl ?_
                  refine x_sipush (z := 337) ho d_MO_look_97 (by decide) ?_
                  refine x_iload_n ho 2 d_MO_look_100 rfl ?_
                  refine x_iast ho d_MO_look_101 g_a2 (by omega) (by omega) (by omega) (rA_in (by omega) (by omega)) (fun H_243 p_244 z_245 q_246 => ?_)
                  have k_247 := k_230.kept (q_246 _ (by omega))
                  have k_248 := k_231.kept (q_246 _ (by omega))
                  have k_249 := k_232.kept (q_246 _ (by omega))
                  have k_250 := k_233.kept (q_246 _ (by omega))
                  have k_251 := k_234.kept (q_246 _ (by omega))
                  have k_252 := k_235.kept (q_246 _ (by omega))
                  have k_253 := k_236.kept (q_246 _ (by omega))
                  have k_254 := k_237.kept (q_246 _ (by omega))
                  have k_255 := k_238.kept (q_246 _ (by omega))
                  have k_256 := k_239.kept (q_246 _ (by omega))
                  have k_257 := t_o_240.kept (q_246 _ (by omega))
                  have k_258 := t_h_242.kept (q_246 _ (by omega))
                  refine x_iconst ho d_MO_look_102 ?_
                  refine x_istore_n (L' := [(3, zV 0), (2, zV s), (1, zV ((V.2.2.2.2.length : Int))), (0, .ref m)]) ho d_MO_look_103 (by decide) rfl ?_
                  have loop_104 : ∀ (kk : Nat) (k : Int) (G : Int → Int) (H_259 : Heap) (l_o : At D H_259 m (oO 11 [.ref (m + 1), .ref (m + 2), zV (((recH V.2.2.2.1 V.1).length : Int)), .ref (m + 3), zV V.2.2.1, .ref (m + 4), .ref (m + 5), .ref (m + 6), zV o_fo, .ref (m + 7), zV o_di, zV ((V.2.2.2.2.length : Int)), .ref (m + 8), zV ((V.2.2.2.2.length : Int)), .ref (m + 9), .ref (m + 10), .ref (m + 11)])) (l_h : isHm D H_259 (m + 2) (recH V.2.2.2.1 V.1)) (l_s : isSl D H_259 (m + 3) V.2.2.1 V.2.1) (l_t : At D H_259 (m + 4) (oI D 301 o_t)) (l_b : At D H_259 (m + 5) (oI D 301 o_b)) (l_p : At D H_259 (m + 6) (oI D 300 o_p)) (l_u : At D H_259 (m + 7) (oI D 300 o_u)) (l_x : isTx D H_259 (m + 8) V.2.2.2.2) (l_c : At D H_259 (m + 9) (oI D 16 o_c)) (l_e : At D H_259 (m + 10) (oI D 16 o_e)) (l_y : At D H_259 (m + 11) (oI D 4 o_y)) (l_d : At D H_259 (m + 1) (oI D 358 G)) (k0 : 0 ≤ k ∧ k ≤ (V.2.2.2.2.length : Int)) (hG : G 337 = (V.2.2.2.2.length : Int)) (hG2 : ∀ j : Int, 0 ≤ j → j < k → G (338 + j) = gA V.2.2.2.2 j - 97) (hG3 : ∀ j : Int, j < 337 → G j = g_f2 j), ((V.2.2.2.2.length : Int) - k).toNat < kk → X M ({ frames := 3, cells := 0, slots := 0, locals := 67 } : Room) 4 (rA m (m + 12)) 0 0 (Qof M (rA m (m + 12)) (q_MO_look D m V) 0 0) 104 [(3, zV k), (2, zV s), (1, zV ((V.2.2.2.2.length : Int))), (0, .ref m)] [] H_259 := by
                    intro kk
                    induction kk with
                    | zero => intro k G H_259 l_o l_h l_s l_t l_b l_p l_u l_x l_c l_e l_y l_d k0 hG hG2 hG3 hk; exact absurd hk (Nat.not_lt_zero _)
                    | succ kk ih_104 =>
                      intro k G H_259 l_o l_h l_s l_t l_b l_p l_u l_x l_c l_e l_y l_d k0 hG hG2 hG3 hk_104
                      refine x_iload_n ho 0 d_MO_look_104 rfl ?_
                      refine x_iload_n ho 2 d_MO_look_105 rfl ?_
                      refine x_icmp_ge (tgt := 134) ho d_MO_look_106 (by decide) (by omega) (by omega) (fun c_106 => ?_) (fun c_106 => ?_)
                      ·
                        have hpz := pm_len (L := V.2.2.2.2) (k := (V.2.2.2.2.length : Int)) (by omega) (Int.le_refl _)
                        have hN : isN D H_259 (m + 1) (V.1.1, V.1.2.1, pm V.2.2.2.2 ((V.2.2.2.2.length : Int))) := ⟨_, l_d, rp_look g_r2 g_p2 (by rw [hpz]; exact hG) (fun j a b => by rw [hpz] at b; rw [pm_g a b (Int.le_refl _)]; exact hG2 j a (by omega)) hG3, n_1, n_2, by show ((pm V.2.2.2.2 ((V.2.2.2.2.length : Int))).length : Int) ≤ 20; omega, pm_w hpt⟩
                        refine x_aload_n ho 3 d_MO_look_134 rfl ?_
                        refine x_callV (rest := []) ho d_MO_look_135 yv_MO_finds g_896 g_37 g_895 (c_MO_finds M.2.1 D m (((recH V.2.2.2.1 V.1).length : Int)) V.2.2.1 o_fo o_di ((V.2.2.2.2.length : Int)) ((V.2.2.2.2.length : Int)) (V.1.1, V.1.2.1, pm V.2.2.2.2 ((V.2.2.2.2.length : Int))) o_p o_u ) rfl rfl ⟨Nat.le_of_ble_eq_true rfl, Nat.le_of_ble_eq_true rfl⟩ ⟨Nat.le_of_ble_eq_true rfl, Nat.le_of_ble_eq_true rfl⟩ rfl rfl (Nat.le_of_ble_eq_true rfl) l_o rfl rfl ⟨l_o, hN, l_p, l_u⟩ (fun z hz => by rcases hz with ⟨z1, z2⟩ | ⟨z1, z2⟩ <;> exact rA_in (by omega) (by omega)) (fun v_260 H_262 hv_260 f_261 => ?_)
                        have k_263 := l_h.kept (f_261.2 _ l_h.lt (fun z => by rcases z with ⟨z1, z2⟩ | ⟨z1, z2⟩ <;> omega))
                        have k_264 := l_s.kept (f_261.2 _ l_s.lt (fun z => by rcases z with ⟨z1, z2⟩ | ⟨z1, z2⟩ <;> omega))
                        have k_265 := l_t.kept (f_261.2 _ l_t.lt (fun z => by rcases z with ⟨z1, z2⟩ | ⟨z1, z2⟩ <;> omega))
                        have k_266 := l_b.kept (f_261.2 _ l_b.lt (fun z => by rcases z with ⟨z1, z2⟩ | ⟨z1, z2⟩ <;> omega))
                        have k_267 := l_x.kept (f_261.2 _ l_x.lt (fun z => by rcases z with ⟨z1, z2⟩ | ⟨z1, z2⟩ <;> omega))
                        have k_268 := l_c.kept (f_261.2 _ l_c.lt (fun z => by rcases z with ⟨z1, z2⟩ | ⟨z1, z2⟩ <;> omega))
                        have k_269 := l_e.kept (f_261.2 _ l_e.lt (fun z => by rcases z with ⟨z1, z2⟩ | ⟨z1, z2⟩ <;> omega))
                        have k_270 := l_y.kept (f_261.2 _ l_y.lt (fun z => by rcases z with ⟨z1, z2⟩ | ⟨z1, z2⟩ <;> omega))
                        obtain ⟨p1_271, u1_272, rfl, hb_273, hp_274, hu_275, t_o_276, t_n_277, t_p_278, t_u_279⟩ := hv_260
                        show X _ _ _ _ _ _ _ _ _ [zV (((aos V.1.2.1 (pm V.2.2.2.2 ((V.2.2.2.2.length : Int)))).length : Int))] _
                        refine x_iret ho hr d_MO_look_138 ?_
                        have hoa : ocs V.1.2.1 (pm V.2.2.2.2 ((V.2.2.2.2.length : Int))) = aos V.1.2.1 (pm V.2.2.2.2 ((V.2.2.2.2.length : Int))) := aos_ocs (ne_nil (by omega))
                        have e : m_look V = (((aos V.1.2.1 (pm V.2.2.2.2 ((V.2.2.2.2.length : Int)))).length : Int), act (V.1.1, V.1.2.1, pm V.2.2.2.2 ((V.2.2.2.2.length : Int))) V) := by unfold m_look; rw [cif_f (fun q => q hp1), hpe, cif_f hkn, hoa]
                        exact ⟨by rw [e], by rw [e]; exact isO_mk t_o_276 t_n_277 k_263 k_264 k_265 k_266 t_p_278 t_u_279 k_267 k_268 k_269 k_270 a_k⟩
                      ·
                        obtain ⟨⟨w_f, w_a, w_r⟩, w_l, w_w⟩ := id l_x
                        refine x_aload_n ho 3 d_MO_look_109 rfl ?_
                        refine x_get 0 ho d_MO_look_110 cl_MO (by decide) g_757 l_o rfl ?_
                        refine x_sipush (z := 338) ho d_MO_look_113 (by decide) ?_
                        refine x_iload_n ho 0 d_MO_look_116 rfl ?_
                        refine x_iadd ho d_MO_look_117 ?_
                        refine x_aload_n ho 3 d_MO_look_118 rfl ?_
                        refine x_get 12 ho d_MO_look_119 cl_MO (by decide) g_769 l_o rfl ?_
                        refine x_iload_n ho 0 d_MO_look_122 rfl ?_
                        refine x_cald ho d_MO_look_123 w_a (by omega) (by omega) (by omega) ?_
                        refine x_eqI (b := gA V.2.2.2.2 k) (by exact w_r k (by omega) (by omega)) ?_
                        refine x_bipush (z := 97) ho d_MO_look_124 (by decide) ?_
                        refine x_isub ho d_MO_look_126 ?_
                        refine x_iast ho d_MO_look_127 l_d (by omega) (by omega) (by omega) (rA_in (by omega) (by omega)) (fun H_280 p_281 z_282 q_283 => ?_)
                        have k_284 := l_o.kept (q_283 _ (by omega))
                        have k_285 := l_h.kept (q_283 _ (by omega))
                        have k_286 := l_s.kept (q_283 _ (by omega))
                        have k_287 := l_t.kept (q_283 _ (by omega))
                        have k_288 := l_b.kept (q_283 _ (by omega))
                        have k_289 := l_p.kept (q_283 _ (by omega))
                        have k_290 := l_u.kept (q_283 _ (by omega))
                        have k_291 := l_x.kept (q_283 _ (by omega))
                        have k_292 := l_c.kept (q_283 _ (by omega))
                        have k_293 := l_e.kept (q_283 _ (by omega))
                        have k_294 := l_y.kept (q_283 _ (by omega))
                        have k_295 := w_a.kept (q_283 _ (by omega))
                        refine x_iinc (L' := [(3, zV (k + 1)), (2, zV s), (1, zV ((V.2.2.2.2.length : Int))), (0, .ref m)]) ho 0 d_MO_look_128 rfl rfl (by decide) rfl ?_
                        refine x_goto (tgt := 104) ho d_MO_look_131 (by decide) ?_
                        exact ih_104 (k + 1) (zU G (338 + k) (gA V.2.2.2.2 k - 97)) H_280 k_284 k_285 k_286 k_287 k_288 k_289 k_290 k_291 k_292 k_293 k_294 p_281 (by omega) (by rw [zU_n _ _ (by omega)]; exact hG) (by intro j a b; by_cases hj : j = k; rw [hj, zU_s]; rw [zU_n _ _ (by omega)]; exact hG2 j a (by omega)) (by intro j a; rw [zU_n _ _ (by omega)]; exact hG3 j a) (by omega)
                  exact loop_104 _ 0 (zU g_f2 337 ((V.2.2.2.2.length : Int))) H_243 k_257 k_258 k_247 k_248 k_249 k_250 k_251 k_255 k_252 k_253 k_254 p_244 (by omega) (by exact zU_s _ _ _) (by exact fun j a b => by omega) (by intro j a; exact zU_n _ _ (by omega)) (Nat.lt_succ_self _)
                ·
                  omega
              ·
                have h_1 : s = 1 := by omega
                have h_2 : (V.1.2.2.length : Int) = (V.2.2.2.2.length : Int) ∧ ∀ j : Int, 0 ≤ j → j < k → gA V.1.2.2 j = gA V.2.2.2.2 j - 97 := by rcases hs with h | h; exact h.2; omega
                have h_3 := gA_r n_3.2 k
                have h_4 := ca_r x_w (z := k) (by omega) (by omega)
                refine x_aload_n ho 3 d_MO_look_48 rfl ?_
                refine x_get 0 ho d_MO_look_49 cl_MO (by decide) g_757 t_o_15 rfl ?_
                refine x_sipush (z := 338) ho d_MO_look_52 (by decide) ?_
                refine x_iload_n ho 0 d_MO_look_55 rfl ?_
                refine x_iadd ho d_MO_look_56 ?_
                refine x_iald ho d_MO_look_57 g_a (by omega) (by omega) (by omega) ?_
                refine x_eqI (b := gA V.1.2.2 k) (by exact g_r.2.2.2 k (by omega) (by omega)) ?_
                refine x_aload_n ho 3 d_MO_look_58 rfl ?_
                refine x_get 12 ho d_MO_look_59 cl_MO (by decide) g_769 t_o_15 rfl ?_
                refine x_iload_n ho 0 d_MO_look_62 rfl ?_
                refine x_cald ho d_MO_look_63 x_a (by omega) (by omega) (by omega) ?_
                refine x_eqI (b := gA V.2.2.2.2 k) (by exact x_r k (by omega) (by omega)) ?_
                refine x_bipush (z := 97) ho d_MO_look_64 (by decide) ?_
                refine x_isub ho d_MO_look_66 ?_
                refine x_icmp_ne (tgt := 74) ho d_MO_look_67 (by decide) (by omega) (by omega) (fun c_67 => ?_) (fun c_67 => ?_)
                ·
                  refine x_iconst ho d_MO_look_74 ?_
                  refine x_istore_n (L' := [(2, zV 0), (3, zV k), (1, zV ((V.2.2.2.2.length : Int))), (0, .ref m)]) ho d_MO_look_75 (by decide) rfl ?_
                  refine x_iinc (L' := [(3, zV (k + 1)), (2, zV 0), (1, zV ((V.2.2.2.2.length : Int))), (0, .ref m)]) ho 1 d_MO_look_76 rfl rfl (by decide) rfl ?_
                  refine x_goto (tgt := 39) ho d_MO_look_79 (by decide) ?_
                  exact ih_39 (k + 1) 0 (by omega) (by omega) (by exact Or.inr ⟨rfl, fun q => c_67 (by rw [← q]; exact pm_g (by omega) (by omega) (Int.le_refl _))⟩) (by omega)
                ·
                  refine x_iconst ho d_MO_look_70 ?_
                  refine x_goto (tgt := 75) ho d_MO_look_71 (by decide) ?_
                  refine x_istore_n (L' := [(2, zV 1), (3, zV k), (1, zV ((V.2.2.2.2.length : Int))), (0, .ref m)]) ho d_MO_look_75 (by decide) rfl ?_
                  refine x_iinc (L' := [(3, zV (k + 1)), (2, zV 1), (1, zV ((V.2.2.2.2.length : Int))), (0, .ref m)]) ho 1 d_MO_look_76 rfl rfl (by decide) rfl ?_
                  refine x_goto (tgt := 39) ho d_MO_look_79 (by decide) ?_
                  exact ih_39 (k + 1) 1 (by omega) (by omega) (by exact Or.inl ⟨rfl, h_2.1, fun j a b => by rcases (show j < k ∨ j = k by omega) with z | z; exact h_2.2 j a z; rw [z]; exact c_67⟩) (by omega)
        exact loop_39 _ 0 1 (by omega) (by omega) (by exact Or.inl ⟨rfl, c_28, fun j a b => by omega⟩) (Nat.lt_succ_self _)
    ·
      omega
  ·
    show X _ _ _ _ _ _ _ _ _ [zV (-5)] _
    have hpp := hp_17
    refine x_istore_n (L' := [(1, zV (-5)), (0, .ref m)]) ho d_MO_look_4 (by decide) rfl ?_
    refine x_iload_n ho 0 d_MO_look_5 rfl ?_
    refine x_bipush (z := (-5)) ho d_MO_look_6 (by decide) ?_
    refine x_icmp_ne (tgt := 19) ho d_MO_look_8 (by decide) (by omega) (by omega) (fun c => absurd c (by decide)) (fun _ => ?_)
    refine x_bipush (z := (-100)) ho d_MO_look_11 (by decide) ?_
    refine x_aload_n ho 1 d_MO_look_13 rfl ?_
    refine x_get 13 ho d_MO_look_14 cl_MO (by decide) g_770 t_o_18 rfl ?_
    refine x_isub ho d_MO_look_17 ?_
    refine x_iret ho hr d_MO_look_18 ?_
    have e : m_look V = (-100 - (pau V.2.2.2.2 [] 0).1, V) := by unfold m_look; rw [cif_t (hpp)]
    exact ⟨by rw [e], by rw [e]; exact isO_mk t_o_18 k_4 k_5 k_6 k_7 k_8 k_9 k_10 t_x_19 k_11 k_12 k_13 a_k⟩
