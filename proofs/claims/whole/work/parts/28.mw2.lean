def q_MW_balance (D : GG) (x : Nat) (V : WV) (z1 : Int) (z2 : Int) : Option Value → Heap → Prop := fun v0 H => v0 = some (zV (r_balance z1 z2 V)) ∧ isW D H x V
theorem yv_MW_balance : Yv y_MW_balance b_MW_balance 3 (Option.some FieldType.int) 2 := ⟨g_652, g_53, by decide, by decide +kernel⟩
set_option maxHeartbeats 4000000 in
set_option maxRecDepth 100000 in
theorem c_MW_balance (l0 : Launch) (D : GG) (x : Nat) (V : WV) (z1 : Int) (z2 : Int) (hz1 : -2147483648 ≤ z1 ∧ z1 ≤ 2147483647) (hz2 : -2147483648 ≤ z2 ∧ z2 ≤ 2147483647) : Ct l0 D y_MW_balance b_MW_balance 3 (Option.some FieldType.int) ({ frames := 2, cells := 0, slots := 0, locals := 47 } : Room) [.ref x, zV z1, zV z2] (fun H => isW D H x V) (rA x (x + 137)) 0 0 (q_MW_balance D x V z1 z2) := by
  refine Ct.of (L := [(0, .ref x), (1, zV z1), (2, zV z2)]) (by decide) (Nat.le_of_ble_eq_true rfl) rfl (fun M H ho hr hnm hH hpre => ?_)
  have hW := hpre
  obtain ⟨xpn, xp, xc, xW1, xW2, xW3, xt, xu, xfd, xg, xe1, xe2, xe3, xm1, xm2, xos, xN, xF, a_o, a_n, a_R, a_w, a_k, a_s, a_h, a_t, a_r, a_1, a_2, a_3, a_P, a_T, a_G, a_M, a_Z, a_g⟩ := id hW
  have w_b := a_w.b
  have w_w := a_w.w
  have k_b := a_k.b
  have t_b := a_t.b
  have h_b := a_h.b
  have g_1 := a_g.1.2
  have c_w := a_R.wc
  refine x_iload_n ho 1 d_MW_balance_0 rfl ?_
  refine x_callS (rest := []) ho d_MW_balance_1 yv_MW_isLetter g_109 g_410 (c_MW_isLetter M.2.1 D z1 (by omega)) rfl rfl ⟨Nat.le_of_ble_eq_true rfl, Nat.le_of_ble_eq_true rfl⟩ ⟨Nat.le_of_ble_eq_true rfl, Nat.le_of_ble_eq_true rfl⟩ rfl rfl (Nat.le_of_ble_eq_true rfl) trivial fr_none' (x_rd (fun v_1 hv_1 => ?_))
  obtain rfl := hv_1
  show X _ _ _ _ _ _ _ _ _ [zV (bI (0 ≤ z1 ∧ z1 < 4))] _
  refine x_if_neB (tgt := 9) ho d_MW_balance_4 (by decide) (fun c_4 => ?_) (fun c_4 => ?_)
  ·
    refine x_iload_n ho 2 d_MW_balance_9 rfl ?_
    refine x_iconst ho d_MW_balance_10 ?_
    refine x_icmp_lt (tgt := 21) ho d_MW_balance_11 (by decide) (by omega) (by omega) (fun c_11 => ?_) (fun c_11 => ?_)
    ·
      refine x_bipush (z := (-2)) ho d_MW_balance_21 (by decide) ?_
      refine x_iret ho hr d_MW_balance_23 ?_
      exact ⟨rI (by unfold r_balance; rw [cif_t (c_4), cif_f (by omega)]), isW_mk a_o a_n a_R a_w a_k a_s a_h a_t a_r a_1 a_2 a_3 a_P a_T a_G a_M a_Z a_g⟩
    ·
      refine x_iload_n ho 2 d_MW_balance_14 rfl ?_
      refine x_sipush (z := 300) ho d_MW_balance_15 (by decide) ?_
      refine x_icmp_le (tgt := 24) ho d_MW_balance_18 (by decide) (by omega) (by omega) (fun c_18 => ?_) (fun c_18 => ?_)
      ·
        refine x_iload_n ho 2 d_MW_balance_24 rfl ?_
        refine x_aload_n ho 0 d_MW_balance_25 rfl ?_
        refine x_get 0 ho d_MW_balance_26 cl_MW (by decide) g_242 a_o rfl ?_
        refine x_get 1 ho d_MW_balance_29 cl_ST (by decide) g_124 a_n rfl ?_
        refine x_callV (rest := [zV z2]) ho d_MW_balance_32 yv_LE_length g_323 g_324 g_428 (c_LE_length M.2.1 D (x + 1 + 13) 300 V.1.2.1 ) rfl rfl ⟨Nat.le_of_ble_eq_true rfl, Nat.le_of_ble_eq_true rfl⟩ ⟨Nat.le_of_ble_eq_true rfl, Nat.le_of_ble_eq_true rfl⟩ rfl rfl (Nat.le_of_ble_eq_true rfl) a_w.1 rfl rfl a_w fr_none' (x_rd (fun v_3 hv_3 => ?_))
        obtain rfl := hv_3
        show X _ _ _ _ _ _ _ _ _ [zV ((V.1.2.1.length : Int)), zV z2] _
        refine x_icmp_le (tgt := 43) ho d_MW_balance_35 (by decide) (by omega) (by omega) (fun c_35 => ?_) (fun c_35 => ?_)
        ·
          refine x_aload_n ho 0 d_MW_balance_43 rfl ?_
          refine x_get 0 ho d_MW_balance_44 cl_MW (by decide) g_242 a_o rfl ?_
          refine x_get 1 ho d_MW_balance_47 cl_ST (by decide) g_124 a_n rfl ?_
          refine x_iload_n ho 1 d_MW_balance_50 rfl ?_
          refine x_iload_n ho 2 d_MW_balance_51 rfl ?_
          refine x_callV (rest := []) ho d_MW_balance_52 yv_LE_imbalance g_654 g_655 g_653 (c_LE_imbalance M.2.1 D (x + 1 + 13) 300 V.1.2.1 z1 z2 (by omega) (by omega)) rfl rfl ⟨Nat.le_of_ble_eq_true rfl, Nat.le_of_ble_eq_true rfl⟩ ⟨Nat.le_of_ble_eq_true rfl, Nat.le_of_ble_eq_true rfl⟩ rfl rfl (Nat.le_of_ble_eq_true rfl) a_w.1 rfl rfl a_w fr_none' (x_rd (fun v_5 hv_5 => ?_))
          obtain ⟨mx_7, mn_8, rfl, hm_9⟩ := hv_5
          show X _ _ _ _ _ _ _ _ _ [zV (mx_7 - mn_8)] _
          refine x_iret ho hr d_MW_balance_55 ?_
          exact ⟨rI (by unfold r_balance; rw [cif_t (c_4), cif_t (by omega), cif_f (by omega)]; exact (mmV_e hm_9).symm), isW_mk a_o a_n a_R a_w a_k a_s a_h a_t a_r a_1 a_2 a_3 a_P a_T a_G a_M a_Z a_g⟩
        ·
          refine x_bipush (z := (-5)) ho d_MW_balance_38 (by decide) ?_
          refine x_goto (tgt := 55) ho d_MW_balance_40 (by decide) ?_
          refine x_iret ho hr d_MW_balance_55 ?_
          exact ⟨rI (by unfold r_balance; rw [cif_t (c_4), cif_t (by omega), cif_t (by omega)]), isW_mk a_o a_n a_R a_w a_k a_s a_h a_t a_r a_1 a_2 a_3 a_P a_T a_G a_M a_Z a_g⟩
      ·
        refine x_bipush (z := (-2)) ho d_MW_balance_21 (by decide) ?_
        refine x_iret ho hr d_MW_balance_23 ?_
        exact ⟨rI (by unfold r_balance; rw [cif_t (c_4), cif_f (by omega)]), isW_mk a_o a_n a_R a_w a_k a_s a_h a_t a_r a_1 a_2 a_3 a_P a_T a_G a_M a_Z a_g⟩
  ·
    refine x_iconst ho d_MW_balance_7 ?_
    refine x_iret ho hr d_MW_balance_8 ?_
    exact ⟨rI (by unfold r_balance; rw [cif_f (c_4)]), isW_mk a_o a_n a_R a_w a_k a_s a_h a_t a_r a_1 a_2 a_3 a_P a_T a_G a_M a_Z a_g⟩
def q_MW_share (D : GG) (x : Nat) (V : WV) (z1 : Int) (z2 : Int) : Option Value → Heap → Prop := fun v0 H => v0 = some (zV (r_share z1 z2 V)) ∧ isW D H x V
theorem yv_MW_share : Yv y_MW_share b_MW_share 5 (Option.some FieldType.int) 2 := ⟨g_660, g_53, by decide, by decide +kernel⟩
set_option maxHeartbeats 4000000 in
set_option maxRecDepth 100000 in
theorem c_MW_share (l0 : Launch) (D : GG) (x : Nat) (V : WV) (z1 : Int) (z2 : Int) (hz1 : -2147483648 ≤ z1 ∧ z1 ≤ 2147483647) (hz2 : -2147483648 ≤ z2 ∧ z2 ≤ 2147483647) : Ct l0 D y_MW_share b_MW_share 5 (Option.some FieldType.int) ({ frames := 2, cells := 0, slots := 0, locals := 46 } : Room) [.ref x, zV z1, zV z2] (fun H => isW D H x V) (rA x (x + 137)) 0 0 (q_MW_share D x V z1 z2) := by
  refine Ct.of (L := [(0, .ref x), (1, zV z1), (2, zV z2)]) (by decide) (Nat.le_of_ble_eq_true rfl) rfl (fun M H ho hr hnm hH hpre => ?_)
  have hW := hpre
  obtain ⟨xpn, xp, xc, xW1, xW2, xW3, xt, xu, xfd, xg, xe1, xe2, xe3, xm1, xm2, xos, xN, xF, a_o, a_n, a_R, a_w, a_k, a_s, a_h, a_t, a_r, a_1, a_2, a_3, a_P, a_T, a_G, a_M, a_Z, a_g⟩ := id hW
  have w_b := a_w.b
  have w_w := a_w.w
  have k_b := a_k.b
  have t_b := a_t.b
  have h_b := a_h.b
  have g_1 := a_g.1.2
  have c_w := a_R.wc
  refine x_iload_n ho 1 d_MW_share_0 rfl ?_
  refine x_callS (rest := []) ho d_MW_share_1 yv_MW_isLetter g_109 g_410 (c_MW_isLetter M.2.1 D z1 (by omega)) rfl rfl ⟨Nat.le_of_ble_eq_true rfl, Nat.le_of_ble_eq_true rfl⟩ ⟨Nat.le_of_ble_eq_true rfl, Nat.le_of_ble_eq_true rfl⟩ rfl rfl (Nat.le_of_ble_eq_true rfl) trivial fr_none' (x_rd (fun v_1 hv_1 => ?_))
  obtain rfl := hv_1
  show X _ _ _ _ _ _ _ _ _ [zV (bI (0 ≤ z1 ∧ z1 < 4))] _
  refine x_if_neB (tgt := 9) ho d_MW_share_4 (by decide) (fun c_4 => ?_) (fun c_4 => ?_)
  ·
    refine x_aload_n ho 0 d_MW_share_9 rfl ?_
    refine x_get 0 ho d_MW_share_10 cl_MW (by decide) g_242 a_o rfl ?_
    refine x_get 1 ho d_MW_share_13 cl_ST (by decide) g_124 a_n rfl ?_
    refine x_iload_n ho 1 d_MW_share_16 rfl ?_
    refine x_callV (rest := []) ho d_MW_share_17 yv_LE_countOf g_412 g_413 g_411 (c_LE_countOf M.2.1 D (x + 1 + 13) 300 V.1.2.1 z1 (by omega)) rfl rfl ⟨Nat.le_of_ble_eq_true rfl, Nat.le_of_ble_eq_true rfl⟩ ⟨Nat.le_of_ble_eq_true rfl, Nat.le_of_ble_eq_true rfl⟩ rfl rfl (Nat.le_of_ble_eq_true rfl) a_w.1 rfl rfl a_w fr_none' (x_rd (fun v_3 hv_3 => ?_))
    obtain ⟨rfl, hr_5⟩ := hv_3
    show X _ _ _ _ _ _ _ _ _ [zV (cn V.1.2.1 z1)] _
    refine x_istore_n (L' := [(3, zV (cn V.1.2.1 z1)), (0, .ref x), (1, zV z1), (2, zV z2)]) ho d_MW_share_20 (by decide) rfl ?_
    refine x_aload_n ho 1 d_MW_share_21 rfl ?_
    refine x_get 0 ho d_MW_share_22 cl_MW (by decide) g_242 a_o rfl ?_
    refine x_get 1 ho d_MW_share_25 cl_ST (by decide) g_124 a_n rfl ?_
    refine x_callV (rest := []) ho d_MW_share_28 yv_LE_length g_323 g_324 g_428 (c_LE_length M.2.1 D (x + 1 + 13) 300 V.1.2.1 ) rfl rfl ⟨Nat.le_of_ble_eq_true rfl, Nat.le_of_ble_eq_true rfl⟩ ⟨Nat.le_of_ble_eq_true rfl, Nat.le_of_ble_eq_true rfl⟩ rfl rfl (Nat.le_of_ble_eq_true rfl) a_w.1 rfl rfl a_w fr_none' (x_rd (fun v_6 hv_6 => ?_))
    obtain rfl := hv_6
    show X _ _ _ _ _ _ _ _ _ [zV ((V.1.2.1.length : Int))] _
    refine x_istore (L' := [(4, zV ((V.1.2.1.length : Int))), (3, zV (cn V.1.2.1 z1)), (0, .ref x), (1, zV z1), (2, zV z2)]) ho d_MW_share_31 (by decide) rfl ?_
    refine x_iload_n ho 4 d_MW_share_33 rfl ?_
    rcases (show (z2 < 0 ∨ 1 < z2) ∨ z2 = 0 ∨ z2 = 1 by omega) with sw_34 | sw_34 | sw_34
    ·
      refine x_look (tgt := 79) (off := 45) ho d_MW_share_34 (by omega) (by decide) (by simp [Op.lookupswitch.offset]; omega) (by decide) ?_
      refine x_bipush (z := (-2)) ho d_MW_share_79 (by decide) ?_
      refine x_iret ho hr d_MW_share_81 ?_
      exact ⟨rI (by unfold r_share; rw [cif_t (c_4), cif_f (by omega), cif_f (by omega)]), isW_mk a_o a_n a_R a_w a_k a_s a_h a_t a_r a_1 a_2 a_3 a_P a_T a_G a_M a_Z a_g⟩
    ·
      refine x_look (tgt := 60) (off := 26) ho d_MW_share_34 (by omega) (by decide) (by rw [sw_34]; rfl) (by decide) ?_
      refine x_iload_n ho 1 d_MW_share_60 rfl ?_
      refine x_iload_n ho 1 d_MW_share_61 rfl ?_
      refine x_iload ho 0 d_MW_share_62 rfl ?_
      refine x_callS (rest := [zV (cn V.1.2.1 z1)]) ho d_MW_share_64 yv_MW_commonDivisor g_662 g_661 (c_MW_commonDivisor M.2.1 D (cn V.1.2.1 z1) ((V.1.2.1.length : Int)) (by omega) (by omega)) rfl rfl ⟨Nat.le_of_ble_eq_true rfl, Nat.le_of_ble_eq_true rfl⟩ ⟨Nat.le_of_ble_eq_true rfl, Nat.le_of_ble_eq_true rfl⟩ rfl rfl (Nat.le_of_ble_eq_true rfl) trivial fr_none' (x_rd (fun v_8 hv_8 => ?_))
      obtain ⟨rfl, hd_10⟩ := hv_8
      show X _ _ _ _ _ _ _ _ _ [zV (dv (cn V.1.2.1 z1) ((V.1.2.1.length : Int))), zV (cn V.1.2.1 z1)] _
      refine x_idiv ho d_MW_share_67 (by omega) (by omega) ?_
      refine x_iret ho hr d_MW_share_68 ?_
      exact ⟨rI (by unfold r_share; rw [cif_t (c_4), cif_t (by omega)]), isW_mk a_o a_n a_R a_w a_k a_s a_h a_t a_r a_1 a_2 a_3 a_P a_T a_G a_M a_Z a_g⟩
    ·
      refine x_look (tgt := 69) (off := 35) ho d_MW_share_34 (by omega) (by decide) (by rw [sw_34]; rfl) (by decide) ?_
      refine x_iload ho 0 d_MW_share_69 rfl ?_
      refine x_iload_n ho 1 d_MW_share_71 rfl ?_
      refine x_iload ho 0 d_MW_share_72 rfl ?_
      refine x_callS (rest := [zV ((V.1.2.1.length : Int))]) ho d_MW_share_74 yv_MW_commonDivisor g_662 g_661 (c_MW_commonDivisor M.2.1 D (cn V.1.2.1 z1) ((V.1.2.1.length : Int)) (by omega) (by omega)) rfl rfl ⟨Nat.le_of_ble_eq_true rfl, Nat.le_of_ble_eq_true rfl⟩ ⟨Nat.le_of_ble_eq_true rfl, Nat.le_of_ble_eq_true rfl⟩ rfl rfl (Nat.le_of_ble_eq_true rfl) trivial fr_none' (x_rd (fun v_11 hv_11 => ?_))
      obtain ⟨rfl, hd_13⟩ := hv_11
      show X _ _ _ _ _ _ _ _ _ [zV (dv (cn V.1.2.1 z1) ((V.1.2.1.length : Int))), zV ((V.1.2.1.length : Int))] _
      refine x_idiv ho d_MW_share_77 (by omega) (by omega) ?_
      refine x_iret ho hr d_MW_share_78 ?_
      exact ⟨rI (by unfold r_share; rw [cif_t (c_4), cif_f (by omega), cif_t (by omega)]), isW_mk a_o a_n a_R a_w a_k a_s a_h a_t a_r a_1 a_2 a_3 a_P a_T a_G a_M a_Z a_g⟩
  ·
    refine x_iconst ho d_MW_share_7 ?_
    refine x_iret ho hr d_MW_share_8 ?_
    exact ⟨rI (by unfold r_share; rw [cif_f (c_4)]), isW_mk a_o a_n a_R a_w a_k a_s a_h a_t a_r a_1 a_2 a_3 a_P a_T a_G a_M a_Z a_g⟩
def q_MW_run (D : GG) (x : Nat) (V : WV) (z1 : Int) : Option Value → Heap → Prop := fun v0 H => v0 = some (zV (r_run z1 V)) ∧ isW D H x V
theorem yv_MW_run : Yv y_MW_run b_MW_run 4 (Option.some FieldType.int) 1 := ⟨g_668, g_53, by decide, by decide +kernel⟩
set_option maxHeartbeats 4000000 in
set_option maxRecDepth 100000 in
theorem c_MW_run (l0 : Launch) (D : GG) (x : Nat) (V : WV) (z1 : Int) (hz1 : -2147483648 ≤ z1 ∧ z1 ≤ 2147483647) : Ct l0 D y_MW_run b_MW_run 4 (Option.some FieldType.int) ({ frames := 3, cells := 0, slots := 0, locals := 68 } : Room) [.ref x, zV z1] (fun H => isW D H x V) (rA x (x + 137)) 0 0 (q_MW_run D x V z1) := by
  refine Ct.of (L := [(0, .ref x), (1, zV z1)]) (by decide) (Nat.le_of_ble_eq_true rfl) rfl (fun M H ho hr hnm hH hpre => ?_)
  have hW := hpre
  obtain ⟨xpn, xp, xc, xW1, xW2, xW3, xt, xu, xfd, xg, xe1, xe2, xe3, xm1, xm2, xos, xN, xF, a_o, a_n, a_R, a_w, a_k, a_s, a_h, a_t, a_r, a_1, a_2, a_3, a_P, a_T, a_G, a_M, a_Z, a_g⟩ := id hW
  have w_b := a_w.b
  have w_w := a_w.w
  have k_b := a_k.b
  have t_b := a_t.b
  have h_b := a_h.b
  have g_1 := a_g.1.2
  have c_w := a_R.wc
  refine x_iload_n ho 1 d_MW_run_0 rfl ?_
  refine x_if_lt (tgt := 9) ho d_MW_run_1 (by decide) (by omega) (fun c_1 => ?_) (fun c_1 => ?_)
  ·
    refine x_bipush (z := (-2)) ho d_MW_run_9 (by decide) ?_
    refine x_iret ho hr d_MW_run_11 ?_
    exact ⟨rI (by unfold r_run; rw [cif_f (by omega)]), isW_mk a_o a_n a_R a_w a_k a_s a_h a_t a_r a_1 a_2 a_3 a_P a_T a_G a_M a_Z a_g⟩
  ·
    refine x_iload_n ho 1 d_MW_run_4 rfl ?_
    refine x_iconst ho d_MW_run_5 ?_
    refine x_icmp_le (tgt := 12) ho d_MW_run_6 (by decide) (by omega) (by omega) (fun c_6 => ?_) (fun c_6 => ?_)
    ·
      refine x_aload_n ho 0 d_MW_run_12 rfl ?_
      refine x_get 11 ho d_MW_run_13 cl_MW (by decide) g_253 a_o rfl ?_
      refine x_aload_n ho 0 d_MW_run_16 rfl ?_
      refine x_get 0 ho d_MW_run_17 cl_MW (by decide) g_242 a_o rfl ?_
      refine x_get 1 ho d_MW_run_20 cl_ST (by decide) g_124 a_n rfl ?_
      refine x_callV (rest := []) ho d_MW_run_23 yv_GR_find g_670 g_671 g_669 (c_GR_find M.2.1 D (x + 130) xe1 xe2 xe3 (x + 1 + 13) 300 V.1.2.1 (by omega)) rfl rfl ⟨Nat.le_of_ble_eq_true rfl, Nat.le_of_ble_eq_true rfl⟩ ⟨Nat.le_of_ble_eq_true rfl, Nat.le_of_ble_eq_true rfl⟩ rfl rfl (Nat.le_of_ble_eq_true rfl) a_G rfl rfl ⟨a_G, a_w⟩ (rA_sub (by omega) (by omega)) (fun v_1 H_3 hv_1 f_2 => ?_)
      have k_4 := a_o.kept (f_2.2 _ a_o.lt (rA_no (by omega)))
      have k_5 := a_n.kept (f_2.2 _ a_n.lt (rA_no (by omega)))
      have k_6 := a_R.kept (fun q g1 g2 => f_2.2 q (by have := a_R.lt; omega) (rA_no (by omega)))
      have k_7 := a_k.kept (fun q g1 g2 => f_2.2 q (by have := a_k.lt; omega) (rA_no (by omega)))
      have k_8 := a_s.kept (fun q g1 g2 => f_2.2 q (by have := a_s.lt; omega) (rA_no (by omega)))
      have k_9 := a_h.kept (fun q g1 g2 => f_2.2 q (by have := a_h.lt; omega) (rA_no (by omega)))
      have k_10 := a_t.kept (fun q g1 g2 => f_2.2 q (by have := a_t.lt; omega) (rA_no (by omega)))
      have k_11 := a_r.kept (fun q g1 g2 => f_2.2 q (by have := a_r.lt; omega) (rA_no (by omega)))
      have k_12 := a_1.kept (fun q g1 g2 => f_2.2 q (by have := a_1.lt; omega) (rA_no (by omega)))
      have k_13 := a_2.kept (fun q g1 g2 => f_2.2 q (by have := a_2.lt; omega) (rA_no (by omega)))
      have k_14 := a_3.kept (fun q g1 g2 => f_2.2 q (by have := a_3.lt; omega) (rA_no (by omega)))
      have k_15 := a_P.kept (fun q g1 g2 => f_2.2 q (by have := a_P.lt; omega) (rA_no (by omega)))
      have k_16 := a_T.kept (fun q g1 g2 => f_2.2 q (by have := a_T.lt; omega) (rA_no (by omega)))
      have k_17 := a_M.kept (fun q g1 g2 => f_2.2 q (by have := a_M.lt; omega) (rA_no (by omega)))
      have k_18 := a_Z.kept (fun q g1 g2 => f_2.2 q (by have := a_Z.lt; omega) (rA_no (by omega)))
      obtain ⟨s_19, rfl, hs_20, hb_21, hG_22, hL_23⟩ := hv_1
      show X _ _ _ _ _ _ _ _ _ [] _
      have hgb := hb_21
      have hgs : s_19 = grV V.1.2.1 := hs_20
      have hcd := dv_1 (a := s_19.2.2) (b := s_19.1) (by omega)
      refine x_aload_n ho 0 d_MW_run_26 rfl ?_
      refine x_get 11 ho d_MW_run_27 cl_MW (by decide) g_253 k_4 rfl ?_
      refine x_callV (rest := []) ho d_MW_run_30 yv_GR_period g_679 g_680 g_678 (c_GR_period M.2.1 D (x + 130) s_19.1 s_19.2.1 s_19.2.2 ) rfl rfl ⟨Nat.le_of_ble_eq_true rfl, Nat.le_of_ble_eq_true rfl⟩ ⟨Nat.le_of_ble_eq_true rfl, Nat.le_of_ble_eq_true rfl⟩ rfl rfl (Nat.le_of_ble_eq_true rfl) hG_22 rfl rfl hG_22 fr_none' (x_rd (fun v_24 hv_24 => ?_))
      obtain rfl := hv_24
      show X _ _ _ _ _ _ _ _ _ [zV s_19.1] _
      refine x_istore_n (L' := [(2, zV s_19.1), (0, .ref x), (1, zV z1)]) ho d_MW_run_33 (by decide) rfl ?_
      refine x_aload_n ho 1 d_MW_run_34 rfl ?_
      refine x_get 11 ho d_MW_run_35 cl_MW (by decide) g_253 k_4 rfl ?_
      refine x_callV (rest := []) ho d_MW_run_38 yv_GR_length g_683 g_684 g_682 (c_GR_length M.2.1 D (x + 130) s_19.1 s_19.2.1 s_19.2.2 ) rfl rfl ⟨Nat.le_of_ble_eq_true rfl, Nat.le_of_ble_eq_true rfl⟩ ⟨Nat.le_of_ble_eq_true rfl, Nat.le_of_ble_eq_true rfl⟩ rfl rfl (Nat.le_of_ble_eq_true rfl) hG_22 rfl rfl hG_22 fr_none' (x_rd (fun v_26 hv_26 => ?_))
      obtain rfl := hv_26
      show X _ _ _ _ _ _ _ _ _ [zV s_19.2.2] _
      refine x_istore_n (L' := [(3, zV s_19.2.2), (2, zV s_19.1), (0, .ref x), (1, zV z1)]) ho d_MW_run_41 (by decide) rfl ?_
      refine x_iload_n ho 3 d_MW_run_42 rfl ?_
      rcases (show (z1 < 0 ∨ 3 < z1) ∨ z1 = 0 ∨ z1 = 1 ∨ z1 = 2 ∨ z1 = 3 by omega) with sw_43 | sw_43 | sw_43 | sw_43 | sw_43
      ·
        refine x_tabOut (tgt := 92) ho d_MW_run_43 (by omega) sw_43 (by decide) ?_
        refine x_iload_n ho 1 d_MW_run_92 rfl ?_
        refine x_iload_n ho 0 d_MW_run_93 rfl ?_
        refine x_iload_n ho 1 d_MW_run_94 rfl ?_
        refine x_callS (rest := [zV s_19.1]) ho d_MW_run_95 yv_MW_commonDivisor g_662 g_661 (c_MW_commonDivisor M.2.1 D s_19.2.2 s_19.1 (by omega) (by omega)) rfl rfl ⟨Nat.le_of_ble_eq_true rfl, Nat.le_of_ble_eq_true rfl⟩ ⟨Nat.le_of_ble_eq_true rfl, Nat.le_of_ble_eq_true rfl⟩ rfl rfl (Nat.le_of_ble_eq_true rfl) trivial fr_none' (x_rd (fun v_28 hv_28 => ?_))
        obtain ⟨rfl, hd_30⟩ := hv_28
        show X _ _ _ _ _ _ _ _ _ [zV (dv s_19.2.2 s_19.1), zV s_19.1] _
        refine x_idiv ho d_MW_run_98 (by omega) (by omega) ?_
        refine x_iret ho hr d_MW_run_99 ?_
        exact ⟨rI (by unfold r_run; rw [cif_t (by omega), cif_f (by omega), cif_f (by omega), cif_f (by omega), cif_f (by omega), hgs]), isW_mk k_4 k_5 k_6 hL_23 k_7 k_8 k_9 k_10 k_11 k_12 k_13 k_14 k_15 k_16 hG_22 k_17 k_18 a_g⟩
      ·
        refine x_tabIn (tgt := 72) (off := 29) ho 0 d_MW_run_43 sw_43 (by decide) (by decide) rfl (by decide) ?_
        refine x_iload_n ho 1 d_MW_run_72 rfl ?_
        refine x_iret ho hr d_MW_run_73 ?_
        exact ⟨rI (by unfold r_run; rw [cif_t (by omega), cif_t (by omega), hgs]), isW_mk k_4 k_5 k_6 hL_23 k_7 k_8 k_9 k_10 k_11 k_12 k_13 k_14 k_15 k_16 hG_22 k_17 k_18 a_g⟩
      ·
        refine x_tabIn (tgt := 74) (off := 31) ho 1 d_MW_run_43 sw_43 (by decide) (by decide) rfl (by decide) ?_
        refine x_aload_n ho 2 d_MW_run_74 rfl ?_
        refine x_get 11 ho d_MW_run_75 cl_MW (by decide) g_253 k_4 rfl ?_
        refine x_callV (rest := []) ho d_MW_run_78 yv_GR_place g_687 g_688 g_686 (c_GR_place M.2.1 D (x + 130) s_19.1 s_19.2.1 s_19.2.2 ) rfl rfl ⟨Nat.le_of_ble_eq_true rfl, Nat.le_of_ble_eq_true rfl⟩ ⟨Nat.le_of_ble_eq_true rfl, Nat.le_of_ble_eq_true rfl⟩ rfl rfl (Nat.le_of_ble_eq_true rfl) hG_22 rfl rfl hG_22 fr_none' (x_rd (fun v_31 hv_31 => ?_))
        obtain rfl := hv_31
        show X _ _ _ _ _ _ _ _ _ [zV s_19.2.1] _
        refine x_iret ho hr d_MW_run_81 ?_
        exact ⟨rI (by unfold r_run; rw [cif_t (by omega), cif_f (by omega), cif_t (by omega), hgs]), isW_mk k_4 k_5 k_6 hL_23 k_7 k_8 k_9 k_10 k_11 k_12 k_13 k_14 k_15 k_16 hG_22 k_17 k_18 a_g⟩
      ·
        refine x_tabIn (tgt := 82) (off := 39) ho 2 d_MW_run_43 sw_43 (by decide) (by decide) rfl (by decide) ?_
        refine x_iload_n ho 0 d_MW_run_82 rfl ?_
        refine x_iret ho hr d_MW_run_83 ?_
        exact ⟨rI (by unfold r_run; rw [cif_t (by omega), cif_f (by omega), cif_f (by omega), cif_t (by omega), hgs]), isW_mk k_4 k_5 k_6 hL_23 k_7 k_8 k_9 k_10 k_11 k_12 k_13 k_14 k_15 k_16 hG_22 k_17 k_18 a_g⟩
      ·
        refine x_tabIn (tgt := 84) (off := 41) ho 3 d_MW_run_43 sw_43 (by decide) (by decide) rfl (by decide) ?_
        refine x_iload_n ho 0 d_MW_run_84 rfl ?_
        refine x_iload_n ho 0 d_MW_run_85 rfl ?_
        refine x_iload_n ho 1 d_MW_run_86 rfl ?_
        refine x_callS (rest := [zV s_19.2.2]) ho d_MW_run_87 yv_MW_commonDivisor g_662 g_661 (c_MW_commonDivisor M.2.1 D s_19.2.2 s_19.1 (by omega) (by omega)) rfl rfl ⟨Nat.le_of_ble_eq_true rfl, Nat.le_of_ble_eq_true rfl⟩ ⟨Nat.le_of_ble_eq_true rfl, Nat.le_of_ble_eq_true rfl⟩ rfl rfl (Nat.le_of_ble_eq_true rfl) trivial fr_none' (x_rd (fun v_33 hv_33 => ?_))
        obtain ⟨rfl, hd_35⟩ := hv_33
        show X _ _ _ _ _ _ _ _ _ [zV (dv s_19.2.2 s_19.1), zV s_19.2.2] _
        refine x_idiv ho d_MW_run_90 (by omega) (by omega) ?_
        refine x_iret ho hr d_MW_run_91 ?_
        exact ⟨rI (by unfold r_run; rw [cif_t (by omega), cif_f (by omega), cif_f (by omega), cif_f (by omega), cif_t (by omega), hgs]), isW_mk k_4 k_5 k_6 hL_23 k_7 k_8 k_9 k_10 k_11 k_12 k_13 k_14 k_15 k_16 hG_22 k_17 k_18 a_g⟩
    ·
      refine x_bipush (z := (-2)) ho d_MW_run_9 (by decide) ?_
      refine x_iret ho hr d_MW_run_11 ?_
      exact ⟨rI (by unfold r_run; rw [cif_f (by omega)]), isW_mk a_o a_n a_R a_w a_k a_s a_h a_t a_r a_1 a_2 a_3 a_P a_T a_G a_M a_Z a_g⟩
def q_MW_mirrored (D : GG) (x : Nat) (V : WV) (z1 : Int) : Option Value → Heap → Prop := fun v0 H => v0 = some (zV (r_mirrored z1 V)) ∧ isW D H x V
theorem yv_MW_mirrored : Yv y_MW_mirrored b_MW_mirrored 2 (Option.some FieldType.int) 1 := ⟨g_693, g_53, by decide, by decide +kernel⟩
set_option maxHeartbeats 4000000 in
set_option maxRecDepth 100000 in
theorem c_MW_mirrored (l0 : Launch) (D : GG) (x : Nat) (V : WV) (z1 : Int) (hz1 : -2147483648 ≤ z1 ∧ z1 ≤ 2147483647) : Ct l0 D y_MW_mirrored b_MW_mirrored 2 (Option.some FieldType.int) ({ frames := 3, cells := 0, slots := 0, locals := 68 } : Room) [.ref x, zV z1] (fun H => isW D H x V) (rA x (x + 137)) 0 0 (q_MW_mirrored D x V z1) := by
  refine Ct.of (L := [(0, .ref x), (1, zV z1)]) (by decide) (Nat.le_of_ble_eq_true rfl) rfl (fun M H ho hr hnm hH hpre => ?_)
  have hW := hpre
  obtain ⟨xpn, xp, xc, xW1, xW2, xW3, xt, xu, xfd, xg, xe1, xe2, xe3, xm1, xm2, xos, xN, xF, a_o, a_n, a_R, a_w, a_k, a_s, a_h, a_t, a_r, a_1, a_2, a_3, a_P, a_T, a_G, a_M, a_Z, a_g⟩ := id hW
  have w_b := a_w.b
  have w_w := a_w.w
  have k_b := a_k.b
  have t_b := a_t.b
  have h_b := a_h.b
  have g_1 := a_g.1.2
  have c_w := a_R.wc
  refine x_iload_n ho 1 d_MW_mirrored_0 rfl ?_
  refine x_if_lt (tgt := 9) ho d_MW_mirrored_1 (by decide) (by omega) (fun c_1 => ?_) (fun c_1 => ?_)
  ·
    refine x_bipush (z := (-2)) ho d_MW_mirrored_9 (by decide) ?_
    refine x_iret ho hr d_MW_mirrored_11 ?_
    exact ⟨rI (by unfold r_mirrored; rw [cif_f (by omega)]), isW_mk a_o a_n a_R a_w a_k a_s a_h a_t a_r a_1 a_2 a_3 a_P a_T a_G a_M a_Z a_g⟩
  ·
    refine x_iload_n ho 1 d_MW_mirrored_4 rfl ?_
    refine x_iconst ho d_MW_mirrored_5 ?_
    refine x_icmp_le (tgt := 12) ho d_MW_mirrored_6 (by decide) (by omega) (by omega) (fun c_6 => ?_) (fun c_6 => ?_)
    ·
      refine x_aload_n ho 0 d_MW_mirrored_12 rfl ?_
      refine x_get 12 ho d_MW_mirrored_13 cl_MW (by decide) g_254 a_o rfl ?_
      refine x_aload_n ho 0 d_MW_mirrored_16 rfl ?_
      refine x_get 0 ho d_MW_mirrored_17 cl_MW (by decide) g_242 a_o rfl ?_
      refine x_get 1 ho d_MW_mirrored_20 cl_ST (by decide) g_124 a_n rfl ?_
      refine x_callV (rest := []) ho d_MW_mirrored_23 yv_LM_find g_695 g_696 g_694 (c_LM_find M.2.1 D (x + 131) xm1 xm2 (x + 1 + 13) 300 V.1.2.1 (by omega) (by omega)) rfl rfl ⟨Nat.le_of_ble_eq_true rfl, Nat.le_of_ble_eq_true rfl⟩ ⟨Nat.le_of_ble_eq_true rfl, Nat.le_of_ble_eq_true rfl⟩ rfl rfl (Nat.le_of_ble_eq_true rfl) a_M rfl rfl ⟨a_M, a_w⟩ (rA_sub (by omega) (by omega)) (fun v_1 H_3 hv_1 f_2 => ?_)
      have k_4 := a_o.kept (f_2.2 _ a_o.lt (rA_no (by omega)))
      have k_5 := a_n.kept (f_2.2 _ a_n.lt (rA_no (by omega)))
      have k_6 := a_R.kept (fun q g1 g2 => f_2.2 q (by have := a_R.lt; omega) (rA_no (by omega)))
      have k_7 := a_k.kept (fun q g1 g2 => f_2.2 q (by have := a_k.lt; omega) (rA_no (by omega)))
      have k_8 := a_s.kept (fun q g1 g2 => f_2.2 q (by have := a_s.lt; omega) (rA_no (by omega)))
      have k_9 := a_h.kept (fun q g1 g2 => f_2.2 q (by have := a_h.lt; omega) (rA_no (by omega)))
      have k_10 := a_t.kept (fun q g1 g2 => f_2.2 q (by have := a_t.lt; omega) (rA_no (by omega)))
      have k_11 := a_r.kept (fun q g1 g2 => f_2.2 q (by have := a_r.lt; omega) (rA_no (by omega)))
      have k_12 := a_1.kept (fun q g1 g2 => f_2.2 q (by have := a_1.lt; omega) (rA_no (by omega)))
      have k_13 := a_2.kept (fun q g1 g2 => f_2.2 q (by have := a_2.lt; omega) (rA_no (by omega)))
      have k_14 := a_3.kept (fun q g1 g2 => f_2.2 q (by have := a_3.lt; omega) (rA_no (by omega)))
      have k_15 := a_P.kept (fun q g1 g2 => f_2.2 q (by have := a_P.lt; omega) (rA_no (by omega)))
      have k_16 := a_T.kept (fun q g1 g2 => f_2.2 q (by have := a_T.lt; omega) (rA_no (by omega)))
      have k_17 := a_G.kept (fun q g1 g2 => f_2.2 q (by have := a_G.lt; omega) (rA_no (by omega)))
      have k_18 := a_Z.kept (fun q g1 g2 => f_2.2 q (by have := a_Z.lt; omega) (rA_no (by omega)))
      obtain ⟨p1_19, p2_20, rfl, hm_21, hM_22, hL_23⟩ := hv_1
      show X _ _ _ _ _ _ _ _ _ [] _
      refine x_iload_n ho 1 d_MW_mirrored_26 rfl ?_
      refine x_if_ne (tgt := 40) ho d_MW_mirrored_27 (by decide) (by omega) (fun c_27 => ?_) (fun c_27 => ?_)
      ·
        refine x_aload_n ho 0 d_MW_mirrored_40 rfl ?_
        refine x_get 12 ho d_MW_mirrored_41 cl_MW (by decide) g_254 k_4 rfl ?_
        refine x_callV (rest := []) ho d_MW_mirrored_44 yv_LM_length g_708 g_709 g_707 (c_LM_length M.2.1 D (x + 131) p1_19 p2_20 ) rfl rfl ⟨Nat.le_of_ble_eq_true rfl, Nat.le_of_ble_eq_true rfl⟩ ⟨Nat.le_of_ble_eq_true rfl, Nat.le_of_ble_eq_true rfl⟩ rfl rfl (Nat.le_of_ble_eq_true rfl) hM_22 rfl rfl hM_22 fr_none' (x_rd (fun v_24 hv_24 => ?_))
        obtain rfl := hv_24
        show X _ _ _ _ _ _ _ _ _ [zV p2_20] _
        refine x_iret ho hr d_MW_mirrored_47 ?_
        exact ⟨rI (by unfold r_mirrored; rw [cif_t (by omega), cif_f (by omega)]; exact (mrV_e hm_21).2.symm), isW_mk k_4 k_5 k_6 hL_23 k_7 k_8 k_9 k_10 k_11 k_12 k_13 k_14 k_15 k_16 k_17 hM_22 k_18 a_g⟩
      ·
        refine x_aload_n ho 0 d_MW_mirrored_30 rfl ?_
        refine x_get 12 ho d_MW_mirrored_31 cl_MW (by decide) g_254 k_4 rfl ?_
        refine x_callV (rest := []) ho d_MW_mirrored_34 yv_LM_place g_704 g_705 g_703 (c_LM_place M.2.1 D (x + 131) p1_19 p2_20 ) rfl rfl ⟨Nat.le_of_ble_eq_true rfl, Nat.le_of_ble_eq_true rfl⟩ ⟨Nat.le_of_ble_eq_true rfl, Nat.le_of_ble_eq_true rfl⟩ rfl rfl (Nat.le_of_ble_eq_true rfl) hM_22 rfl rfl hM_22 fr_none' (x_rd (fun v_26 hv_26 => ?_))
        obtain rfl := hv_26
        show X _ _ _ _ _ _ _ _ _ [zV p1_19] _
        refine x_goto (tgt := 47) ho d_MW_mirrored_37 (by decide) ?_
        refine x_iret ho hr d_MW_mirrored_47 ?_
        exact ⟨rI (by unfold r_mirrored; rw [cif_t (by omega), cif_t (by omega)]; exact (mrV_e hm_21).1.symm), isW_mk k_4 k_5 k_6 hL_23 k_7 k_8 k_9 k_10 k_11 k_12 k_13 k_14 k_15 k_16 k_17 hM_22 k_18 a_g⟩
    ·
      refine x_bipush (z := (-2)) ho d_MW_mirrored_9 (by decide) ?_
      refine x_iret ho hr d_MW_mirrored_11 ?_
      exact ⟨rI (by unfold r_mirrored; rw [cif_f (by omega)]), isW_mk a_o a_n a_R a_w a_k a_s a_h a_t a_r a_1 a_2 a_3 a_P a_T a_G a_M a_Z a_g⟩
def q_MW_comes (D : GG) (x : Nat) (V : WV) (z1 : Int) : Option Value → Heap → Prop := fun v0 H => v0 = some (zV (r_comes z1 V)) ∧ isW D H x V
theorem yv_MW_comes : Yv y_MW_comes b_MW_comes 2 (Option.some FieldType.int) 1 := ⟨g_714, g_53, by decide, by decide +kernel⟩
set_option maxHeartbeats 4000000 in
set_option maxRecDepth 100000 in
theorem c_MW_comes (l0 : Launch) (D : GG) (x : Nat) (V : WV) (z1 : Int) (hz1 : -2147483648 ≤ z1 ∧ z1 ≤ 2147483647) : Ct l0 D y_MW_comes b_MW_comes 2 (Option.some FieldType.int) ({ frames := 5, cells := 0, slots := 0, locals := 115 } : Room) [.ref x, zV z1] (fun H => isW D H x V) (rA x (x + 137)) 0 0 (q_MW_comes D x V z1) := by
  refine Ct.of (L := [(0, .ref x), (1, zV z1)]) (by decide) (Nat.le_of_ble_eq_true rfl) rfl (fun M H ho hr hnm hH hpre => ?_)
  have hW := hpre
  obtain ⟨xpn, xp, xc, xW1, xW2, xW3, xt, xu, xfd, xg, xe1, xe2, xe3, xm1, xm2, xos, xN, xF, a_o, a_n, a_R, a_w, a_k, a_s, a_h, a_t, a_r, a_1, a_2, a_3, a_P, a_T, a_G, a_M, a_Z, a_g⟩ := id hW
  have w_b := a_w.b
  have w_w := a_w.w
  have k_b := a_k.b
  have t_b := a_t.b
  have h_b := a_h.b
  have g_1 := a_g.1.2
  have c_w := a_R.wc
  refine x_iload_n ho 1 d_MW_comes_0 rfl ?_
  refine x_if_ge (tgt := 7) ho d_MW_comes_1 (by decide) (by omega) (fun c_1 => ?_) (fun c_1 => ?_)
  ·
    refine x_aload_n ho 0 d_MW_comes_7 rfl ?_
    refine x_get 0 ho d_MW_comes_8 cl_MW (by decide) g_242 a_o rfl ?_
    have hS_1 : isS D H (x + 1) V.1 := ⟨a_n, ⟨_, a_R⟩, a_w, a_k⟩
    refine x_callV (rest := []) ho d_MW_comes_11 yv_ST_hasPiece g_716 g_717 g_715 (c_ST_hasPiece M.2.1 D (x + 1) V.1 ) rfl rfl ⟨Nat.le_of_ble_eq_true rfl, Nat.le_of_ble_eq_true rfl⟩ ⟨Nat.le_of_ble_eq_true rfl, Nat.le_of_ble_eq_true rfl⟩ rfl rfl (Nat.le_of_ble_eq_true rfl) a_n rfl rfl hS_1 fr_none' (x_rd (fun v_2 hv_2 => ?_))
    obtain rfl := hv_2
    show X _ _ _ _ _ _ _ _ _ [zV (bI (0 < (V.1.2.2.length : Int)))] _
    refine x_if_neB (tgt := 20) ho d_MW_comes_14 (by decide) (fun c_14 => ?_) (fun c_14 => ?_)
    ·
      refine x_aload_n ho 0 d_MW_comes_20 rfl ?_
      refine x_get 13 ho d_MW_comes_21 cl_MW (by decide) g_255 a_o rfl ?_
      refine x_aload_n ho 0 d_MW_comes_24 rfl ?_
      refine x_get 0 ho d_MW_comes_25 cl_MW (by decide) g_242 a_o rfl ?_
      refine x_get 1 ho d_MW_comes_28 cl_ST (by decide) g_124 a_n rfl ?_
      refine x_aload_n ho 0 d_MW_comes_31 rfl ?_
      refine x_get 0 ho d_MW_comes_32 cl_MW (by decide) g_242 a_o rfl ?_
      refine x_get 2 ho d_MW_comes_35 cl_ST (by decide) g_126 a_n rfl ?_
      refine x_callV (rest := []) ho d_MW_comes_38 yv_RT_find g_454 g_455 g_453 (c_RT_find M.2.1 D (x + 132) xos xN xF (x + 1 + 13) 300 V.1.2.1 (x + 1 + 15) 20 V.1.2.2 (by omega) (by omega)) rfl rfl ⟨Nat.le_of_ble_eq_true rfl, Nat.le_of_ble_eq_true rfl⟩ ⟨Nat.le_of_ble_eq_true rfl, Nat.le_of_ble_eq_true rfl⟩ rfl rfl (Nat.le_of_ble_eq_true rfl) a_Z.1 rfl rfl ⟨a_Z, a_w, a_k⟩ (rA_sub (by omega) (by omega)) (fun v_4 H_6 hv_4 f_5 => ?_)
      have k_7 := a_o.kept (f_5.2 _ a_o.lt (rA_no (by omega)))
      have k_8 := a_n.kept (f_5.2 _ a_n.lt (rA_no (by omega)))
      have k_9 := a_R.kept (fun q g1 g2 => f_5.2 q (by have := a_R.lt; omega) (rA_no (by omega)))
      have k_10 := a_s.kept (fun q g1 g2 => f_5.2 q (by have := a_s.lt; omega) (rA_no (by omega)))
      have k_11 := a_h.kept (fun q g1 g2 => f_5.2 q (by have := a_h.lt; omega) (rA_no (by omega)))
      have k_12 := a_t.kept (fun q g1 g2 => f_5.2 q (by have := a_t.lt; omega) (rA_no (by omega)))
      have k_13 := a_r.kept (fun q g1 g2 => f_5.2 q (by have := a_r.lt; omega) (rA_no (by omega)))
      have k_14 := a_1.kept (fun q g1 g2 => f_5.2 q (by have := a_1.lt; omega) (rA_no (by omega)))
      have k_15 := a_2.kept (fun q g1 g2 => f_5.2 q (by have := a_2.lt; omega) (rA_no (by omega)))
      have k_16 := a_3.kept (fun q g1 g2 => f_5.2 q (by have := a_3.lt; omega) (rA_no (by omega)))
      have k_17 := a_P.kept (fun q g1 g2 => f_5.2 q (by have := a_P.lt; omega) (rA_no (by omega)))
      have k_18 := a_T.kept (fun q g1 g2 => f_5.2 q (by have := a_T.lt; omega) (rA_no (by omega)))
      have k_19 := a_G.kept (fun q g1 g2 => f_5.2 q (by have := a_G.lt; omega) (rA_no (by omega)))
      have k_20 := a_M.kept (fun q g1 g2 => f_5.2 q (by have := a_M.lt; omega) (rA_no (by omega)))
      have k_21 := hS_1.kept (fun q g1 g2 => f_5.2 q (by have := hS_1.lt; omega) (rA_no (by omega)))
      obtain ⟨rfl, hT_22, hL_23, hK_24⟩ := hv_4
      show X _ _ _ _ _ _ _ _ _ [] _
      refine x_iload_n ho 1 d_MW_comes_41 rfl ?_
      refine x_aload_n ho 0 d_MW_comes_42 rfl ?_
      refine x_get 13 ho d_MW_comes_43 cl_MW (by decide) g_255 k_7 rfl ?_
      refine x_callV (rest := [zV z1]) ho d_MW_comes_46 yv_RT_found g_499 g_500 g_498 (c_RT_found M.2.1 D (x + 132) (ocs V.1.2.1 V.1.2.2) (roo V.1.2.1 (ocs V.1.2.1 V.1.2.2)) (fir V.1.2.1 (ocs V.1.2.1 V.1.2.2)) ) rfl rfl ⟨Nat.le_of_ble_eq_true rfl, Nat.le_of_ble_eq_true rfl⟩ ⟨Nat.le_of_ble_eq_true rfl, Nat.le_of_ble_eq_true rfl⟩ rfl rfl (Nat.le_of_ble_eq_true rfl) hT_22.1 rfl rfl hT_22 fr_none' (x_rd (fun v_25 hv_25 => ?_))
      obtain ⟨rfl, hb_27⟩ := hv_25
      show X _ _ _ _ _ _ _ _ _ [zV (((ocs V.1.2.1 V.1.2.2).length : Int)), zV z1] _
      refine x_icmp_ge (tgt := 63) ho d_MW_comes_49 (by decide) (by omega) (by omega) (fun c_49 => ?_) (fun c_49 => ?_)
      ·
        refine x_bipush (z := (-5)) ho d_MW_comes_63 (by decide) ?_
        refine x_iret ho hr d_MW_comes_65 ?_
        exact ⟨rI (by unfold r_comes; rw [cif_f (by omega), cif_t (c_14), cif_f (fun q => by unfold osW at q; omega)]), isW_mk k_7 k_8 k_9 hL_23 hK_24 k_10 k_11 k_12 k_13 k_14 k_15 k_16 k_17 k_18 k_19 k_20 hT_22 a_g⟩
      ·
        refine x_aload_n ho 0 d_MW_comes_52 rfl ?_
        refine x_get 13 ho d_MW_comes_53 cl_MW (by decide) g_255 k_7 rfl ?_
        refine x_iload_n ho 1 d_MW_comes_56 rfl ?_
        refine x_callV (rest := []) ho d_MW_comes_57 yv_RT_placeOf g_474 g_475 g_720 (c_RT_placeOf M.2.1 D (x + 132) (ocs V.1.2.1 V.1.2.2) (roo V.1.2.1 (ocs V.1.2.1 V.1.2.2)) (fir V.1.2.1 (ocs V.1.2.1 V.1.2.2)) z1 (by omega)) rfl rfl ⟨Nat.le_of_ble_eq_true rfl, Nat.le_of_ble_eq_true rfl⟩ ⟨Nat.le_of_ble_eq_true rfl, Nat.le_of_ble_eq_true rfl⟩ rfl rfl (Nat.le_of_ble_eq_true rfl) hT_22.1 rfl rfl hT_22 fr_none' (x_rd (fun v_28 hv_28 => ?_))
        obtain ⟨rfl, hb_30⟩ := hv_28
        show X _ _ _ _ _ _ _ _ _ [zV (plc (ocs V.1.2.1 V.1.2.2) z1)] _
        refine x_goto (tgt := 65) ho d_MW_comes_60 (by decide) ?_
        refine x_iret ho hr d_MW_comes_65 ?_
        exact ⟨rI (by unfold r_comes; rw [cif_f (by omega), cif_t (c_14), cif_t (by unfold osW; omega)]; exact if_pos (by omega)), isW_mk k_7 k_8 k_9 hL_23 hK_24 k_10 k_11 k_12 k_13 k_14 k_15 k_16 k_17 k_18 k_19 k_20 hT_22 a_g⟩
    ·
      refine x_bipush (z := (-4)) ho d_MW_comes_17 (by decide) ?_
      refine x_iret ho hr d_MW_comes_19 ?_
      exact ⟨rI (by unfold r_comes; rw [cif_f (by omega), cif_f (c_14)]), isW_mk a_o a_n a_R a_w a_k a_s a_h a_t a_r a_1 a_2 a_3 a_P a_T a_G a_M a_Z a_g⟩
  ·
    refine x_bipush (z := (-2)) ho d_MW_comes_4 (by decide) ?_
    refine x_iret ho hr d_MW_comes_6 ?_
    exact ⟨rI (by unfold r_comes; rw [cif_t (by omega)]), isW_mk a_o a_n a_R a_w a_k a_s a_h a_t a_r a_1 a_2 a_3 a_P a_T a_G a_M a_Z a_g⟩
def q_MW_row (D : GG) (x : Nat) (V : WV) (z1 : Int) : Option Value → Heap → Prop := fun v0 H => v0 = some (zV (r_row z1 V)) ∧ isW D H x V
theorem yv_MW_row : Yv y_MW_row b_MW_row 2 (Option.some FieldType.int) 1 := ⟨g_743, g_53, by decide, by decide +kernel⟩
set_option maxHeartbeats 4000000 in
set_option maxRecDepth 100000 in
theorem c_MW_row (l0 : Launch) (D : GG) (x : Nat) (V : WV) (z1 : Int) (hz1 : -2147483648 ≤ z1 ∧ z1 ≤ 2147483647) : Ct l0 D y_MW_row b_MW_row 2 (Option.some FieldType.int) ({ frames := 5, cells := 0, slots := 0, locals := 115 } : Room) [.ref x, zV z1] (fun H => isW D H x V) (rA x (x + 137)) 0 0 (q_MW_row D x V z1) := by
  refine Ct.of (L := [(0, .ref x), (1, zV z1)]) (by decide) (Nat.le_of_ble_eq_true rfl) rfl (fun M H ho hr hnm hH hpre => ?_)
  have hW := hpre
  obtain ⟨xpn, xp, xc, xW1, xW2, xW3, xt, xu, xfd, xg, xe1, xe2, xe3, xm1, xm2, xos, xN, xF, a_o, a_n, a_R, a_w, a_k, a_s, a_h, a_t, a_r, a_1, a_2, a_3, a_P, a_T, a_G, a_M, a_Z, a_g⟩ := id hW
  have w_b := a_w.b
  have w_w := a_w.w
  have k_b := a_k.b
  have t_b := a_t.b
  have h_b := a_h.b
  have g_1 := a_g.1.2
  have c_w := a_R.wc
  refine x_iload_n ho 1 d_MW_row_0 rfl ?_
  refine x_if_ge (tgt := 7) ho d_MW_row_1 (by decide) (by omega) (fun c_1 => ?_) (fun c_1 => ?_)
  ·
    refine x_aload_n ho 0 d_MW_row_7 rfl ?_
    refine x_get 0 ho d_MW_row_8 cl_MW (by decide) g_242 a_o rfl ?_
    have hS_1 : isS D H (x + 1) V.1 := ⟨a_n, ⟨_, a_R⟩, a_w, a_k⟩
    refine x_callV (rest := []) ho d_MW_row_11 yv_ST_hasPiece g_716 g_717 g_715 (c_ST_hasPiece M.2.1 D (x + 1) V.1 ) rfl rfl ⟨Nat.le_of_ble_eq_true rfl, Nat.le_of_ble_eq_true rfl⟩ ⟨Nat.le_of_ble_eq_true rfl, Nat.le_of_ble_eq_true rfl⟩ rfl rfl (Nat.le_of_ble_eq_true rfl) a_n rfl rfl hS_1 fr_none' (x_rd (fun v_2 hv_2 => ?_))
    obtain rfl := hv_2
    show X _ _ _ _ _ _ _ _ _ [zV (bI (0 < (V.1.2.2.length : Int)))] _
    refine x_if_neB (tgt := 20) ho d_MW_row_14 (by decide) (fun c_14 => ?_) (fun c_14 => ?_)
    ·
      refine x_aload_n ho 0 d_MW_row_20 rfl ?_
      refine x_get 13 ho d_MW_row_21 cl_MW (by decide) g_255 a_o rfl ?_
      refine x_aload_n ho 0 d_MW_row_24 rfl ?_
      refine x_get 0 ho d_MW_row_25 cl_MW (by decide) g_242 a_o rfl ?_
      refine x_get 1 ho d_MW_row_28 cl_ST (by decide) g_124 a_n rfl ?_
      refine x_aload_n ho 0 d_MW_row_31 rfl ?_
      refine x_get 0 ho d_MW_row_32 cl_MW (by decide) g_242 a_o rfl ?_
      refine x_get 2 ho d_MW_row_35 cl_ST (by decide) g_126 a_n rfl ?_
      refine x_callV (rest := []) ho d_MW_row_38 yv_RT_find g_454 g_455 g_453 (c_RT_find M.2.1 D (x + 132) xos xN xF (x + 1 + 13) 300 V.1.2.1 (x + 1 + 15) 20 V.1.2.2 (by omega) (by omega)) rfl rfl ⟨Nat.le_of_ble_eq_true rfl, Nat.le_of_ble_eq_true rfl⟩ ⟨Nat.le_of_ble_eq_true rfl, Nat.le_of_ble_eq_true rfl⟩ rfl rfl (Nat.le_of_ble_eq_true rfl) a_Z.1 rfl rfl ⟨a_Z, a_w, a_k⟩ (rA_sub (by omega) (by omega)) (fun v_4 H_6 hv_4 f_5 => ?_)
      have k_7 := a_o.kept (f_5.2 _ a_o.lt (rA_no (by omega)))
      have k_8 := a_n.kept (f_5.2 _ a_n.lt (rA_no (by omega)))
      have k_9 := a_R.kept (fun q g1 g2 => f_5.2 q (by have := a_R.lt; omega) (rA_no (by omega)))
      have k_10 := a_s.kept (fun q g1 g2 => f_5.2 q (by have := a_s.lt; omega) (rA_no (by omega)))
      have k_11 := a_h.kept (fun q g1 g2 => f_5.2 q (by have := a_h.lt; omega) (rA_no (by omega)))
      have k_12 := a_t.kept (fun q g1 g2 => f_5.2 q (by have := a_t.lt; omega) (rA_no (by omega)))
      have k_13 := a_r.kept (fun q g1 g2 => f_5.2 q (by have := a_r.lt; omega) (rA_no (by omega)))
      have k_14 := a_1.kept (fun q g1 g2 => f_5.2 q (by have := a_1.lt; omega) (rA_no (by omega)))
      have k_15 := a_2.kept (fun q g1 g2 => f_5.2 q (by have := a_2.lt; omega) (rA_no (by omega)))
      have k_16 := a_3.kept (fun q g1 g2 => f_5.2 q (by have := a_3.lt; omega) (rA_no (by omega)))
      have k_17 := a_P.kept (fun q g1 g2 => f_5.2 q (by have := a_P.lt; omega) (rA_no (by omega)))
      have k_18 := a_T.kept (fun q g1 g2 => f_5.2 q (by have := a_T.lt; omega) (rA_no (by omega)))
      have k_19 := a_G.kept (fun q g1 g2 => f_5.2 q (by have := a_G.lt; omega) (rA_no (by omega)))
      have k_20 := a_M.kept (fun q g1 g2 => f_5.2 q (by have := a_M.lt; omega) (rA_no (by omega)))
      have k_21 := hS_1.kept (fun q g1 g2 => f_5.2 q (by have := hS_1.lt; omega) (rA_no (by omega)))
      obtain ⟨rfl, hT_22, hL_23, hK_24⟩ := hv_4
      show X _ _ _ _ _ _ _ _ _ [] _
      refine x_iload_n ho 1 d_MW_row_41 rfl ?_
      refine x_aload_n ho 0 d_MW_row_42 rfl ?_
      refine x_get 13 ho d_MW_row_43 cl_MW (by decide) g_255 k_7 rfl ?_
      refine x_callV (rest := [zV z1]) ho d_MW_row_46 yv_RT_rowLength g_460 g_461 g_481 (c_RT_rowLength M.2.1 D (x + 132) (ocs V.1.2.1 V.1.2.2) (roo V.1.2.1 (ocs V.1.2.1 V.1.2.2)) (fir V.1.2.1 (ocs V.1.2.1 V.1.2.2)) ) rfl rfl ⟨Nat.le_of_ble_eq_true rfl, Nat.le_of_ble_eq_true rfl⟩ ⟨Nat.le_of_ble_eq_true rfl, Nat.le_of_ble_eq_true rfl⟩ rfl rfl (Nat.le_of_ble_eq_true rfl) hT_22.1 rfl rfl hT_22 fr_none' (x_rd (fun v_25 hv_25 => ?_))
      obtain ⟨rfl, hb_27⟩ := hv_25
      show X _ _ _ _ _ _ _ _ _ [zV (rl (ocs V.1.2.1 V.1.2.2)), zV z1] _
      refine x_icmp_ge (tgt := 63) ho d_MW_row_49 (by decide) (by omega) (by omega) (fun c_49 => ?_) (fun c_49 => ?_)
      ·
        refine x_bipush (z := (-5)) ho d_MW_row_63 (by decide) ?_
        refine x_iret ho hr d_MW_row_65 ?_
        exact ⟨rI (by unfold r_row; rw [cif_f (by omega), cif_t (c_14), cif_f (fun q => by unfold osW at q; omega)]), isW_mk k_7 k_8 k_9 hL_23 hK_24 k_10 k_11 k_12 k_13 k_14 k_15 k_16 k_17 k_18 k_19 k_20 hT_22 a_g⟩
      ·
        refine x_aload_n ho 0 d_MW_row_52 rfl ?_
        refine x_get 13 ho d_MW_row_53 cl_MW (by decide) g_255 k_7 rfl ?_
        refine x_iload_n ho 1 d_MW_row_56 rfl ?_
        have hrl := roo_len V.1.2.1 (ocs V.1.2.1 V.1.2.2)
        refine x_callV (rest := []) ho d_MW_row_57 yv_RT_numberAt g_487 g_488 g_486 (c_RT_numberAt M.2.1 D (x + 132) (ocs V.1.2.1 V.1.2.2) (roo V.1.2.1 (ocs V.1.2.1 V.1.2.2)) (fir V.1.2.1 (ocs V.1.2.1 V.1.2.2)) z1 (by omega)) rfl rfl ⟨Nat.le_of_ble_eq_true rfl, Nat.le_of_ble_eq_true rfl⟩ ⟨Nat.le_of_ble_eq_true rfl, Nat.le_of_ble_eq_true rfl⟩ rfl rfl (Nat.le_of_ble_eq_true rfl) hT_22.1 rfl rfl hT_22 fr_none' (x_rd (fun v_28 hv_28 => ?_))
        obtain ⟨rfl, hb_30⟩ := hv_28
        show X _ _ _ _ _ _ _ _ _ [zV (gA (roo V.1.2.1 (ocs V.1.2.1 V.1.2.2)) z1)] _
        refine x_goto (tgt := 65) ho d_MW_row_60 (by decide) ?_
        refine x_iret ho hr d_MW_row_65 ?_
        exact ⟨rI (by unfold r_row; rw [cif_f (by omega), cif_t (c_14), cif_t (by unfold osW; omega)]), isW_mk k_7 k_8 k_9 hL_23 hK_24 k_10 k_11 k_12 k_13 k_14 k_15 k_16 k_17 k_18 k_19 k_20 hT_22 a_g⟩
    ·
      refine x_bipush (z := (-4)) ho d_MW_row_17 (by decide) ?_
      refine x_iret ho hr d_MW_row_19 ?_
      exact ⟨rI (by unfold r_row; rw [cif_f (by omega), cif_f (c_14)]), isW_mk a_o a_n a_R a_w a_k a_s a_h a_t a_r a_1 a_2 a_3 a_P a_T a_G a_M a_Z a_g⟩
  ·
    refine x_bipush (z := (-2)) ho d_MW_row_4 (by decide) ?_
    refine x_iret ho hr d_MW_row_6 ?_
    exact ⟨rI (by unfold r_row; rw [cif_t (by omega)]), isW_mk a_o a_n a_R a_w a_k a_s a_h a_t a_r a_1 a_2 a_3 a_P a_T a_G a_M a_Z a_g⟩
def q_MW_returns (D : GG) (x : Nat) (V : WV) (z1 : Int) (z2 : Int) : Option Value → Heap → Prop := fun v0 H => v0 = some (zV (r_returns z1 z2 V)) ∧ isW D H x V
theorem yv_MW_returns : Yv y_MW_returns b_MW_returns 3 (Option.some FieldType.int) 2 := ⟨g_724, g_53, by decide, by decide +kernel⟩
set_option maxHeartbeats 4000000 in
set_option maxRecDepth 100000 in
theorem c_MW_returns (l0 : Launch) (D : GG) (x : Nat) (V : WV) (z1 : Int) (z2 : Int) (hz1 : -2147483648 ≤ z1 ∧ z1 ≤ 2147483647) (hz2 : -2147483648 ≤ z2 ∧ z2 ≤ 2147483647) : Ct l0 D y_MW_returns b_MW_returns 3 (Option.some FieldType.int) ({ frames := 5, cells := 0, slots := 0, locals := 115 } : Room) [.ref x, zV z1, zV z2] (fun H => isW D H x V) (rA x (x + 137)) 0 0 (q_MW_returns D x V z1 z2) := by
  refine Ct.of (L := [(0, .ref x), (1, zV z1), (2, zV z2)]) (by decide) (Nat.le_of_ble_eq_true rfl) rfl (fun M H ho hr hnm hH hpre => ?_)
  have hW := hpre
  obtain ⟨xpn, xp, xc, xW1, xW2, xW3, xt, xu, xfd, xg, xe1, xe2, xe3, xm1, xm2, xos, xN, xF, a_o, a_n, a_R, a_w, a_k, a_s, a_h, a_t, a_r, a_1, a_2, a_3, a_P, a_T, a_G, a_M, a_Z, a_g⟩ := id hW
  have w_b := a_w.b
  have w_w := a_w.w
  have k_b := a_k.b
  have t_b := a_t.b
  have h_b := a_h.b
  have g_1 := a_g.1.2
  have c_w := a_R.wc
  refine x_iload_n ho 1 d_MW_returns_0 rfl ?_
  refine x_if_lt (tgt := 13) ho d_MW_returns_1 (by decide) (by omega) (fun c_1 => ?_) (fun c_1 => ?_)
  ·
    refine x_bipush (z := (-2)) ho d_MW_returns_13 (by decide) ?_
    refine x_iret ho hr d_MW_returns_15 ?_
    exact ⟨rI (by unfold r_returns; rw [cif_t (by omega)]), isW_mk a_o a_n a_R a_w a_k a_s a_h a_t a_r a_1 a_2 a_3 a_P a_T a_G a_M a_Z a_g⟩
  ·
    refine x_iload_n ho 2 d_MW_returns_4 rfl ?_
    refine x_if_lt (tgt := 13) ho d_MW_returns_5 (by decide) (by omega) (fun c_5 => ?_) (fun c_5 => ?_)
    ·
      refine x_bipush (z := (-2)) ho d_MW_returns_13 (by decide) ?_
      refine x_iret ho hr d_MW_returns_15 ?_
      exact ⟨rI (by unfold r_returns; rw [cif_t (by omega)]), isW_mk a_o a_n a_R a_w a_k a_s a_h a_t a_r a_1 a_2 a_3 a_P a_T a_G a_M a_Z a_g⟩
    ·
      refine x_iload_n ho 2 d_MW_returns_8 rfl ?_
      refine x_iconst ho d_MW_returns_9 ?_
      refine x_icmp_le (tgt := 16) ho d_MW_returns_10 (by decide) (by omega) (by omega) (fun c_10 => ?_) (fun c_10 => ?_)
      ·
        refine x_aload_n ho 0 d_MW_returns_16 rfl ?_
        refine x_get 0 ho d_MW_returns_17 cl_MW (by decide) g_242 a_o rfl ?_
        have hS_1 : isS D H (x + 1) V.1 := ⟨a_n, ⟨_, a_R⟩, a_w, a_k⟩
        refine x_callV (rest := []) ho d_MW_returns_20 yv_ST_hasPiece g_716 g_717 g_715 (c_ST_hasPiece M.2.1 D (x + 1) V.1 ) rfl rfl ⟨Nat.le_of_ble_eq_true rfl, Nat.le_of_ble_eq_true rfl⟩ ⟨Nat.le_of_ble_eq_true rfl, Nat.le_of_ble_eq_true rfl⟩ rfl rfl (Nat.le_of_ble_eq_true rfl) a_n rfl rfl hS_1 fr_none' (x_rd (fun v_2 hv_2 => ?_))
        obtain rfl := hv_2
        show X _ _ _ _ _ _ _ _ _ [zV (bI (0 < (V.1.2.2.length : Int)))] _
        refine x_if_neB (tgt := 29) ho d_MW_returns_23 (by decide) (fun c_23 => ?_) (fun c_23 => ?_)
        ·
          refine x_aload_n ho 0 d_MW_returns_29 rfl ?_
          refine x_get 13 ho d_MW_returns_30 cl_MW (by decide) g_255 a_o rfl ?_
          refine x_aload_n ho 0 d_MW_returns_33 rfl ?_
          refine x_get 0 ho d_MW_returns_34 cl_MW (by decide) g_242 a_o rfl ?_
          refine x_get 1 ho d_MW_returns_37 cl_ST (by decide) g_124 a_n rfl ?_
          refine x_aload_n ho 0 d_MW_returns_40 rfl ?_
          refine x_get 0 ho d_MW_returns_41 cl_MW (by decide) g_242 a_o rfl ?_
          refine x_get 2 ho d_MW_returns_44 cl_ST (by decide) g_126 a_n rfl ?_
          refine x_callV (rest := []) ho d_MW_returns_47 yv_RT_find g_454 g_455 g_453 (c_RT_find M.2.1 D (x + 132) xos xN xF (x + 1 + 13) 300 V.1.2.1 (x + 1 + 15) 20 V.1.2.2 (by omega) (by omega)) rfl rfl ⟨Nat.le_of_ble_eq_true rfl, Nat.le_of_ble_eq_true rfl⟩ ⟨Nat.le_of_ble_eq_true rfl, Nat.le_of_ble_eq_true rfl⟩ rfl rfl (Nat.le_of_ble_eq_true rfl) a_Z.1 rfl rfl ⟨a_Z, a_w, a_k⟩ (rA_sub (by omega) (by omega)) (fun v_4 H_6 hv_4 f_5 => ?_)
          have k_7 := a_o.kept (f_5.2 _ a_o.lt (rA_no (by omega)))
          have k_8 := a_n.kept (f_5.2 _ a_n.lt (rA_no (by omega)))
          have k_9 := a_R.kept (fun q g1 g2 => f_5.2 q (by have := a_R.lt; omega) (rA_no (by omega)))
          have k_10 := a_s.kept (fun q g1 g2 => f_5.2 q (by have := a_s.lt; omega) (rA_no (by omega)))
          have k_11 := a_h.kept (fun q g1 g2 => f_5.2 q (by have := a_h.lt; omega) (rA_no (by omega)))
          have k_12 := a_t.kept (fun q g1 g2 => f_5.2 q (by have := a_t.lt; omega) (rA_no (by omega)))
          have k_13 := a_r.kept (fun q g1 g2 => f_5.2 q (by have := a_r.lt; omega) (rA_no (by omega)))
          have k_14 := a_1.kept (fun q g1 g2 => f_5.2 q (by have := a_1.lt; omega) (rA_no (by omega)))
          have k_15 := a_2.kept (fun q g1 g2 => f_5.2 q (by have := a_2.lt; omega) (rA_no (by omega)))
          have k_16 := a_3.kept (fun q g1 g2 => f_5.2 q (by have := a_3.lt; omega) (rA_no (by omega)))
          have k_17 := a_P.kept (fun q g1 g2 => f_5.2 q (by have := a_P.lt; omega) (rA_no (by omega)))
          have k_18 := a_T.kept (fun q g1 g2 => f_5.2 q (by have := a_T.lt; omega) (rA_no (by omega)))
          have k_19 := a_G.kept (fun q g1 g2 => f_5.2 q (by have := a_G.lt; omega) (rA_no (by omega)))
          have k_20 := a_M.kept (fun q g1 g2 => f_5.2 q (by have := a_M.lt; omega) (rA_no (by omega)))
          have k_21 := hS_1.kept (fun q g1 g2 => f_5.2 q (by have := hS_1.lt; omega) (rA_no (by omega)))
          obtain ⟨rfl, hT_22, hL_23, hK_24⟩ := hv_4
          show X _ _ _ _ _ _ _ _ _ [] _
          refine x_iload_n ho 1 d_MW_returns_50 rfl ?_
          refine x_aload_n ho 0 d_MW_returns_51 rfl ?_
          refine x_get 13 ho d_MW_returns_52 cl_MW (by decide) g_255 k_7 rfl ?_
          refine x_callV (rest := [zV z1]) ho d_MW_returns_55 yv_RT_different g_483 g_484 g_482 (c_RT_different M.2.1 D (x + 132) (ocs V.1.2.1 V.1.2.2) (roo V.1.2.1 (ocs V.1.2.1 V.1.2.2)) (fir V.1.2.1 (ocs V.1.2.1 V.1.2.2)) ) rfl rfl ⟨Nat.le_of_ble_eq_true rfl, Nat.le_of_ble_eq_true rfl⟩ ⟨Nat.le_of_ble_eq_true rfl, Nat.le_of_ble_eq_true rfl⟩ rfl rfl (Nat.le_of_ble_eq_true rfl) hT_22.1 rfl rfl hT_22 fr_none' (x_rd (fun v_25 hv_25 => ?_))
          obtain ⟨rfl, hb_27⟩ := hv_25
          show X _ _ _ _ _ _ _ _ _ [zV (((fir V.1.2.1 (ocs V.1.2.1 V.1.2.2)).length : Int)), zV z1] _
          refine x_icmp_lt (tgt := 64) ho d_MW_returns_58 (by decide) (by omega) (by omega) (fun c_58 => ?_) (fun c_58 => ?_)
          ·
            have hnb := (hT_22).nb
            have hrl := roo_len V.1.2.1 (ocs V.1.2.1 V.1.2.2)
            have hrl2 : rl (ocs V.1.2.1 V.1.2.2) + 1 ≤ ((ocs V.1.2.1 V.1.2.2).length : Int) ∨ rl (ocs V.1.2.1 V.1.2.2) = 0 := by unfold rl; split <;> omega
            have hfo : ∀ y ∈ fir V.1.2.1 (ocs V.1.2.1 V.1.2.2), y + 1 < ((ocs V.1.2.1 V.1.2.2).length : Int) := fun y hy => by have := hnb.1 y hy; omega
            refine x_iload_n ho 2 d_MW_returns_64 rfl ?_
            rcases (show (z2 < 0 ∨ 1 < z2) ∨ z2 = 0 ∨ z2 = 1 by omega) with sw_65 | sw_65 | sw_65
            ·
              refine x_look (tgt := 110) (off := 45) ho d_MW_returns_65 (by omega) (by decide) (by simp [Op.lookupswitch.offset]; omega) (by decide) ?_
              refine x_aload_n ho 0 d_MW_returns_110 rfl ?_
              refine x_get 13 ho d_MW_returns_111 cl_MW (by decide) g_255 k_7 rfl ?_
              refine x_iload_n ho 1 d_MW_returns_114 rfl ?_
              refine x_callV (rest := []) ho d_MW_returns_115 yv_RT_timesOf g_737 g_738 g_736 (c_RT_timesOf M.2.1 D (x + 132) (ocs V.1.2.1 V.1.2.2) (roo V.1.2.1 (ocs V.1.2.1 V.1.2.2)) (fir V.1.2.1 (ocs V.1.2.1 V.1.2.2)) z1 (by omega)) rfl rfl ⟨Nat.le_of_ble_eq_true rfl, Nat.le_of_ble_eq_true rfl⟩ ⟨Nat.le_of_ble_eq_true rfl, Nat.le_of_ble_eq_true rfl⟩ rfl rfl (Nat.le_of_ble_eq_true rfl) hT_22.1 rfl rfl hT_22 fr_none' (x_rd (fun v_28 hv_28 => ?_))
              obtain rfl := hv_28
              show X _ _ _ _ _ _ _ _ _ [zV (cn (roo V.1.2.1 (ocs V.1.2.1 V.1.2.2)) z1)] _
              refine x_iret ho hr d_MW_returns_118 ?_
              exact ⟨rI (by unfold r_returns; rw [cif_f (by omega), cif_t (c_23), cif_t (c_58), cif_f (by omega), cif_f (by omega)]), isW_mk k_7 k_8 k_9 hL_23 hK_24 k_10 k_11 k_12 k_13 k_14 k_15 k_16 k_17 k_18 k_19 k_20 hT_22 a_g⟩
            ·
              refine x_look (tgt := 92) (off := 27) ho d_MW_returns_65 (by omega) (by decide) (by rw [sw_65]; rfl) (by decide) ?_
              refine x_aload_n ho 0 d_MW_returns_92 rfl ?_
              refine x_get 13 ho d_MW_returns_93 cl_MW (by decide) g_255 k_7 rfl ?_
              refine x_iload_n ho 1 d_MW_returns_96 rfl ?_
              refine x_callV (rest := []) ho d_MW_returns_97 yv_RT_lengthOf g_726 g_727 g_725 (c_RT_lengthOf M.2.1 D (x + 132) (ocs V.1.2.1 V.1.2.2) (roo V.1.2.1 (ocs V.1.2.1 V.1.2.2)) (fir V.1.2.1 (ocs V.1.2.1 V.1.2.2)) z1 (by omega) (by exact hfo)) rfl rfl ⟨Nat.le_of_ble_eq_true rfl, Nat.le_of_ble_eq_true rfl⟩ ⟨Nat.le_of_ble_eq_true rfl, Nat.le_of_ble_eq_true rfl⟩ rfl rfl (Nat.le_of_ble_eq_true rfl) hT_22.1 rfl rfl hT_22 fr_none' (x_rd (fun v_30 hv_30 => ?_))
              obtain rfl := hv_30
              show X _ _ _ _ _ _ _ _ _ [zV (gap (ocs V.1.2.1 V.1.2.2) (gA (fir V.1.2.1 (ocs V.1.2.1 V.1.2.2)) z1))] _
              refine x_iret ho hr d_MW_returns_100 ?_
              exact ⟨rI (by unfold r_returns; rw [cif_f (by omega), cif_t (c_23), cif_t (c_58), cif_t (by omega)]), isW_mk k_7 k_8 k_9 hL_23 hK_24 k_10 k_11 k_12 k_13 k_14 k_15 k_16 k_17 k_18 k_19 k_20 hT_22 a_g⟩
            ·
              refine x_look (tgt := 101) (off := 36) ho d_MW_returns_65 (by omega) (by decide) (by rw [sw_65]; rfl) (by decide) ?_
              refine x_aload_n ho 0 d_MW_returns_101 rfl ?_
              refine x_get 13 ho d_MW_returns_102 cl_MW (by decide) g_255 k_7 rfl ?_
              refine x_iload_n ho 1 d_MW_returns_105 rfl ?_
              refine x_callV (rest := []) ho d_MW_returns_106 yv_RT_firstPlaceOf g_733 g_734 g_732 (c_RT_firstPlaceOf M.2.1 D (x + 132) (ocs V.1.2.1 V.1.2.2) (roo V.1.2.1 (ocs V.1.2.1 V.1.2.2)) (fir V.1.2.1 (ocs V.1.2.1 V.1.2.2)) z1 (by omega) (by exact hfo)) rfl rfl ⟨Nat.le_of_ble_eq_true rfl, Nat.le_of_ble_eq_true rfl⟩ ⟨Nat.le_of_ble_eq_true rfl, Nat.le_of_ble_eq_true rfl⟩ rfl rfl (Nat.le_of_ble_eq_true rfl) hT_22.1 rfl rfl hT_22 fr_none' (x_rd (fun v_32 hv_32 => ?_))
              obtain rfl := hv_32
              show X _ _ _ _ _ _ _ _ _ [zV (gA (ocs V.1.2.1 V.1.2.2) (gA (fir V.1.2.1 (ocs V.1.2.1 V.1.2.2)) z1))] _
              refine x_iret ho hr d_MW_returns_109 ?_
              exact ⟨rI (by unfold r_returns; rw [cif_f (by omega), cif_t (c_23), cif_t (c_58), cif_f (by omega), cif_t (by omega)]), isW_mk k_7 k_8 k_9 hL_23 hK_24 k_10 k_11 k_12 k_13 k_14 k_15 k_16 k_17 k_18 k_19 k_20 hT_22 a_g⟩
          ·
            refine x_bipush (z := (-5)) ho d_MW_returns_61 (by decide) ?_
            refine x_iret ho hr d_MW_returns_63 ?_
            exact ⟨rI (by unfold r_returns; rw [cif_f (by omega), cif_t (c_23), cif_f (fun q => c_58 q)]), isW_mk k_7 k_8 k_9 hL_23 hK_24 k_10 k_11 k_12 k_13 k_14 k_15 k_16 k_17 k_18 k_19 k_20 hT_22 a_g⟩
        ·
          refine x_bipush (z := (-4)) ho d_MW_returns_26 (by decide) ?_
          refine x_iret ho hr d_MW_returns_28 ?_
          exact ⟨rI (by unfold r_returns; rw [cif_f (by omega), cif_f (c_23)]), isW_mk a_o a_n a_R a_w a_k a_s a_h a_t a_r a_1 a_2 a_3 a_P a_T a_G a_M a_Z a_g⟩
      ·
        refine x_bipush (z := (-2)) ho d_MW_returns_13 (by decide) ?_
        refine x_iret ho hr d_MW_returns_15 ?_
        exact ⟨rI (by unfold r_returns; rw [cif_t (by omega)]), isW_mk a_o a_n a_R a_w a_k a_s a_h a_t a_r a_1 a_2 a_3 a_P a_T a_G a_M a_Z a_g⟩
