def q_MW_countReturns (D : GG) (x : Nat) (V : WV) (P : Prop) : Option Value → Heap → Prop := fun v0 H => v0 = some (zV (cif (0 < (V.1.2.2.length : Int)) (cif P (((fiW V).length : Int)) (((osW V).length : Int))) (-5))) ∧ isW D H x V
theorem yv_MW_countReturns : Yv y_MW_countReturns b_MW_countReturns 2 (Option.some FieldType.int) 1 := ⟨g_750, g_53, by decide, by decide +kernel⟩
set_option maxHeartbeats 4000000 in
set_option maxRecDepth 100000 in
theorem c_MW_countReturns (l0 : Launch) (D : GG) (x : Nat) (V : WV) (P : Prop)  : Ct l0 D y_MW_countReturns b_MW_countReturns 2 (Option.some FieldType.int) ({ frames := 5, cells := 0, slots := 0, locals := 115 } : Room) [.ref x, zV (bI P)] (fun H => isW D H x V) (rA x (x + 137)) 0 0 (q_MW_countReturns D x V P) := by
  refine Ct.of (L := [(0, .ref x), (1, zV (bI P))]) (by decide) (Nat.le_of_ble_eq_true rfl) rfl (fun M H ho hr hnm hH hpre => ?_)
  have hW := hpre
  obtain ⟨xpn, xp, xc, xW1, xW2, xW3, xt, xu, xfd, xg, xe1, xe2, xe3, xm1, xm2, xos, xN, xF, a_o, a_n, a_R, a_w, a_k, a_s, a_h, a_t, a_r, a_1, a_2, a_3, a_P, a_T, a_G, a_M, a_Z, a_g⟩ := id hW
  have w_b := a_w.b
  have w_w := a_w.w
  have k_b := a_k.b
  have t_b := a_t.b
  have h_b := a_h.b
  have g_1 := a_g.1.2
  have c_w := a_R.wc
  refine x_aload_n ho 0 d_MW_countReturns_0 rfl ?_
  refine x_get 0 ho d_MW_countReturns_1 cl_MW (by decide) g_242 a_o rfl ?_
  have hS_1 : isS D H (x + 1) V.1 := ⟨a_n, ⟨_, a_R⟩, a_w, a_k⟩
  refine x_callV (rest := []) ho d_MW_countReturns_4 yv_ST_hasPiece g_716 g_717 g_715 (c_ST_hasPiece M.2.1 D (x + 1) V.1 ) rfl rfl ⟨Nat.le_of_ble_eq_true rfl, Nat.le_of_ble_eq_true rfl⟩ ⟨Nat.le_of_ble_eq_true rfl, Nat.le_of_ble_eq_true rfl⟩ rfl rfl (Nat.le_of_ble_eq_true rfl) a_n rfl rfl hS_1 fr_none' (x_rd (fun v_2 hv_2 => ?_))
  obtain rfl := hv_2
  show X _ _ _ _ _ _ _ _ _ [zV (bI (0 < (V.1.2.2.length : Int)))] _
  refine x_if_neB (tgt := 13) ho d_MW_countReturns_7 (by decide) (fun c_7 => ?_) (fun c_7 => ?_)
  ·
    refine x_aload_n ho 0 d_MW_countReturns_13 rfl ?_
    refine x_get 13 ho d_MW_countReturns_14 cl_MW (by decide) g_255 a_o rfl ?_
    refine x_aload_n ho 0 d_MW_countReturns_17 rfl ?_
    refine x_get 0 ho d_MW_countReturns_18 cl_MW (by decide) g_242 a_o rfl ?_
    refine x_get 1 ho d_MW_countReturns_21 cl_ST (by decide) g_124 a_n rfl ?_
    refine x_aload_n ho 0 d_MW_countReturns_24 rfl ?_
    refine x_get 0 ho d_MW_countReturns_25 cl_MW (by decide) g_242 a_o rfl ?_
    refine x_get 2 ho d_MW_countReturns_28 cl_ST (by decide) g_126 a_n rfl ?_
    refine x_callV (rest := []) ho d_MW_countReturns_31 yv_RT_find g_454 g_455 g_453 (c_RT_find M.2.1 D (x + 132) xos xN xF (x + 1 + 13) 300 V.1.2.1 (x + 1 + 15) 20 V.1.2.2 (by omega) (by omega)) rfl rfl ⟨Nat.le_of_ble_eq_true rfl, Nat.le_of_ble_eq_true rfl⟩ ⟨Nat.le_of_ble_eq_true rfl, Nat.le_of_ble_eq_true rfl⟩ rfl rfl (Nat.le_of_ble_eq_true rfl) a_Z.1 rfl rfl ⟨a_Z, a_w, a_k⟩ (rA_sub (by omega) (by omega)) (fun v_4 H_6 hv_4 f_5 => ?_)
    have k_7 := a_o.kept (f_5.2 _ a_o.lt (rA_no (by omega)))
    have k_8 := a_n.kept (f_5.2 _ a_n.lt (rA_no (by omega)))
    have k_9 := a_R.kept (fun q g1 g2 => f_5.2 q (by have := a_R.lt; omega) (rA_no (by omega)))
    have k_10 := a_s.kept (fun q g1 g2 => f_5.2 q (by have := a_s.lt; omega) (rA_no (by omega)))
    have k_11 := a_h.kept (fun q g1 g2 => f_5.2 q (by have := a_h.lt; omega) (rA_no (by omega)))
    have k_12 := a_t.kept (fun q g1 g2 => f_5.2 q (by have := a_t.lt; omega) (rA_no (by omega)))
    have k_13 := a_r.kept (fun q g1 g2 => f_5.2 q (by have := a_r.lt; omega) (rA_no (by omega)))
    have k_14 := a_1.kept (fun q g1 g2 => f_5.2 q (by have := a_1.lt; omega) (rA_no (by omega)))
    have k_15 := a_2.kept (fun q g1 g2 => f_5.2 q (by have := a_2.lt; omega) (rA_no (by omega)))
    have k_16 := a_3.kept (fun q g1 g2 => f_5.2 q (by have := a_3.lt; omega) (rA_no (by omega)))
    have k_17 := a_P.kept (fun q g1 g2 => f_5.2 q (by have := a_P.lt; omega) (rA_no (by omega)))
    have k_18 := a_T.kept (fun q g1 g2 => f_5.2 q (by have := a_T.lt; omega) (rA_no (by omega)))
    have k_19 := a_G.kept (fun q g1 g2 => f_5.2 q (by have := a_G.lt; omega) (rA_no (by omega)))
    have k_20 := a_M.kept (fun q g1 g2 => f_5.2 q (by have := a_M.lt; omega) (rA_no (by omega)))
    have k_21 := hS_1.kept (fun q g1 g2 => f_5.2 q (by have := hS_1.lt; omega) (rA_no (by omega)))
    obtain ⟨rfl, hT_22, hL_23, hK_24⟩ := hv_4
    show X _ _ _ _ _ _ _ _ _ [] _
    refine x_iload_n ho 1 d_MW_countReturns_34 rfl ?_
    refine x_if_eqB (tgt := 48) ho d_MW_countReturns_35 (by decide) (fun c_35 => ?_) (fun c_35 => ?_)
    ·
      refine x_aload_n ho 0 d_MW_countReturns_48 rfl ?_
      refine x_get 13 ho d_MW_countReturns_49 cl_MW (by decide) g_255 k_7 rfl ?_
      refine x_callV (rest := []) ho d_MW_countReturns_52 yv_RT_found g_499 g_500 g_498 (c_RT_found M.2.1 D (x + 132) (ocs V.1.2.1 V.1.2.2) (roo V.1.2.1 (ocs V.1.2.1 V.1.2.2)) (fir V.1.2.1 (ocs V.1.2.1 V.1.2.2)) ) rfl rfl ⟨Nat.le_of_ble_eq_true rfl, Nat.le_of_ble_eq_true rfl⟩ ⟨Nat.le_of_ble_eq_true rfl, Nat.le_of_ble_eq_true rfl⟩ rfl rfl (Nat.le_of_ble_eq_true rfl) hT_22.1 rfl rfl hT_22 fr_none' (x_rd (fun v_25 hv_25 => ?_))
      obtain ⟨rfl, hb_27⟩ := hv_25
      show X _ _ _ _ _ _ _ _ _ [zV (((ocs V.1.2.1 V.1.2.2).length : Int))] _
      refine x_iret ho hr d_MW_countReturns_55 ?_
      exact ⟨by rw [cif_t c_7, cif_f c_35], isW_mk k_7 k_8 k_9 hL_23 hK_24 k_10 k_11 k_12 k_13 k_14 k_15 k_16 k_17 k_18 k_19 k_20 hT_22 a_g⟩
    ·
      refine x_aload_n ho 0 d_MW_countReturns_38 rfl ?_
      refine x_get 13 ho d_MW_countReturns_39 cl_MW (by decide) g_255 k_7 rfl ?_
      refine x_callV (rest := []) ho d_MW_countReturns_42 yv_RT_different g_483 g_484 g_482 (c_RT_different M.2.1 D (x + 132) (ocs V.1.2.1 V.1.2.2) (roo V.1.2.1 (ocs V.1.2.1 V.1.2.2)) (fir V.1.2.1 (ocs V.1.2.1 V.1.2.2)) ) rfl rfl ⟨Nat.le_of_ble_eq_true rfl, Nat.le_of_ble_eq_true rfl⟩ ⟨Nat.le_of_ble_eq_true rfl, Nat.le_of_ble_eq_true rfl⟩ rfl rfl (Nat.le_of_ble_eq_true rfl) hT_22.1 rfl rfl hT_22 fr_none' (x_rd (fun v_28 hv_28 => ?_))
      obtain ⟨rfl, hb_30⟩ := hv_28
      show X _ _ _ _ _ _ _ _ _ [zV (((fir V.1.2.1 (ocs V.1.2.1 V.1.2.2)).length : Int))] _
      refine x_goto (tgt := 55) ho d_MW_countReturns_45 (by decide) ?_
      refine x_iret ho hr d_MW_countReturns_55 ?_
      exact ⟨by rw [cif_t c_7, cif_t c_35], isW_mk k_7 k_8 k_9 hL_23 hK_24 k_10 k_11 k_12 k_13 k_14 k_15 k_16 k_17 k_18 k_19 k_20 hT_22 a_g⟩
  ·
    refine x_bipush (z := (-5)) ho d_MW_countReturns_10 (by decide) ?_
    refine x_iret ho hr d_MW_countReturns_12 ?_
    exact ⟨by rw [cif_f c_7], isW_mk a_o a_n a_R a_w a_k a_s a_h a_t a_r a_1 a_2 a_3 a_P a_T a_G a_M a_Z a_g⟩
def q_MW_type (D : GG) (x : Nat) (V : WV) (z1 : Int) : Option Value → Heap → Prop := fun v0 H => v0 = some (zV ((m_type z1 V).1)) ∧ isW D H x ((m_type z1 V).2)
theorem yv_MW_type : Yv y_MW_type b_MW_type 2 (Option.some FieldType.int) 1 := ⟨g_505, g_53, by decide, by decide +kernel⟩
set_option maxHeartbeats 4000000 in
set_option maxRecDepth 100000 in
theorem c_MW_type (l0 : Launch) (D : GG) (x : Nat) (V : WV) (z1 : Int) (hz1 : 0 ≤ z1 ∧ z1 < 65536) : Ct l0 D y_MW_type b_MW_type 2 (Option.some FieldType.int) ({ frames := 1, cells := 0, slots := 0, locals := 21 } : Room) [.ref x, zV z1] (fun H => isW D H x V) (rA x (x + 137)) 0 0 (q_MW_type D x V z1) := by
  refine Ct.of (L := [(0, .ref x), (1, zV z1)]) (by decide) (Nat.le_of_ble_eq_true rfl) rfl (fun M H ho hr hnm hH hpre => ?_)
  have hW := hpre
  obtain ⟨xpn, xp, xc, xW1, xW2, xW3, xt, xu, xfd, xg, xe1, xe2, xe3, xm1, xm2, xos, xN, xF, a_o, a_n, a_R, a_w, a_k, a_s, a_h, a_t, a_r, a_1, a_2, a_3, a_P, a_T, a_G, a_M, a_Z, a_g⟩ := id hW
  have w_b := a_w.b
  have w_w := a_w.w
  have k_b := a_k.b
  have t_b := a_t.b
  have h_b := a_h.b
  have g_1 := a_g.1.2
  have c_w := a_R.wc
  refine x_aload_n ho 0 d_MW_type_0 rfl ?_
  refine x_get 4 ho d_MW_type_1 cl_MW (by decide) g_246 a_o rfl ?_
  refine x_iload_n ho 1 d_MW_type_4 rfl ?_
  refine x_callV (rest := []) ho d_MW_type_5 yv_TX_add g_507 g_508 g_506 (c_TX_add M.2.1 D (x + 105) V.2.2.2.2 z1 (by omega)) rfl rfl ⟨Nat.le_of_ble_eq_true rfl, Nat.le_of_ble_eq_true rfl⟩ ⟨Nat.le_of_ble_eq_true rfl, Nat.le_of_ble_eq_true rfl⟩ rfl rfl (Nat.le_of_ble_eq_true rfl) a_t.1 rfl rfl a_t (rA_sub (by omega) (by omega)) (fun v_1 H_3 hv_1 f_2 => ?_)
  have k_4 := a_o.kept (f_2.2 _ a_o.lt (rA_no (by omega)))
  have k_5 := a_n.kept (f_2.2 _ a_n.lt (rA_no (by omega)))
  have k_6 := a_R.kept (fun q g1 g2 => f_2.2 q (by have := a_R.lt; omega) (rA_no (by omega)))
  have k_7 := a_w.kept (fun q g1 g2 => f_2.2 q (by have := a_w.lt; omega) (rA_no (by omega)))
  have k_8 := a_k.kept (fun q g1 g2 => f_2.2 q (by have := a_k.lt; omega) (rA_no (by omega)))
  have k_9 := a_s.kept (fun q g1 g2 => f_2.2 q (by have := a_s.lt; omega) (rA_no (by omega)))
  have k_10 := a_h.kept (fun q g1 g2 => f_2.2 q (by have := a_h.lt; omega) (rA_no (by omega)))
  have k_11 := a_r.kept (fun q g1 g2 => f_2.2 q (by have := a_r.lt; omega) (rA_no (by omega)))
  have k_12 := a_1.kept (fun q g1 g2 => f_2.2 q (by have := a_1.lt; omega) (rA_no (by omega)))
  have k_13 := a_2.kept (fun q g1 g2 => f_2.2 q (by have := a_2.lt; omega) (rA_no (by omega)))
  have k_14 := a_3.kept (fun q g1 g2 => f_2.2 q (by have := a_3.lt; omega) (rA_no (by omega)))
  have k_15 := a_P.kept (fun q g1 g2 => f_2.2 q (by have := a_P.lt; omega) (rA_no (by omega)))
  have k_16 := a_T.kept (fun q g1 g2 => f_2.2 q (by have := a_T.lt; omega) (rA_no (by omega)))
  have k_17 := a_G.kept (fun q g1 g2 => f_2.2 q (by have := a_G.lt; omega) (rA_no (by omega)))
  have k_18 := a_M.kept (fun q g1 g2 => f_2.2 q (by have := a_M.lt; omega) (rA_no (by omega)))
  have k_19 := a_Z.kept (fun q g1 g2 => f_2.2 q (by have := a_Z.lt; omega) (rA_no (by omega)))
  rcases hv_1 with ⟨rfl, hl_20, hT_21⟩ | ⟨rfl, hl_22, hT_23⟩
  ·
    show X _ _ _ _ _ _ _ _ _ [zV 1] _
    refine x_if_eq (tgt := 21) ho d_MW_type_8 (by decide) (by omega) (fun c => absurd c (by decide)) (fun _ => ?_)
    refine x_aload_n ho 0 d_MW_type_11 rfl ?_
    refine x_get 4 ho d_MW_type_12 cl_MW (by decide) g_246 k_4 rfl ?_
    refine x_callV (rest := []) ho d_MW_type_15 yv_TX_length g_511 g_512 g_510 (c_TX_length M.2.1 D (x + 105) (V.2.2.2.2 ++ [z1]) ) rfl rfl ⟨Nat.le_of_ble_eq_true rfl, Nat.le_of_ble_eq_true rfl⟩ ⟨Nat.le_of_ble_eq_true rfl, Nat.le_of_ble_eq_true rfl⟩ rfl rfl (Nat.le_of_ble_eq_true rfl) hT_21.1 rfl rfl hT_21 fr_none' (x_rd (fun v_24 hv_24 => ?_))
    obtain ⟨rfl, hb_26⟩ := hv_24
    show X _ _ _ _ _ _ _ _ _ [zV (((V.2.2.2.2 ++ [z1]).length : Int))] _
    refine x_goto (tgt := 23) ho d_MW_type_18 (by decide) ?_
    refine x_iret ho hr d_MW_type_23 ?_
    have e : m_type z1 V = ((V.2.2.2.2.length : Int) + 1, (V.1, V.2.1, V.2.2.1, V.2.2.2.1, V.2.2.2.2 ++ [z1])) := by unfold m_type; rw [cif_t (hl_20)]
    exact ⟨rI (by rw [e]; exact snoc_len _ _), by rw [e]; exact isW_mk k_4 k_5 k_6 k_7 k_8 k_9 k_10 hT_21 k_11 k_12 k_13 k_14 k_15 k_16 k_17 k_18 k_19 a_g⟩
  ·
    show X _ _ _ _ _ _ _ _ _ [zV 0] _
    refine x_if_eq (tgt := 21) ho d_MW_type_8 (by decide) (by omega) (fun _ => ?_) (fun c => absurd c (by decide))
    refine x_bipush (z := (-3)) ho d_MW_type_21 (by decide) ?_
    refine x_iret ho hr d_MW_type_23 ?_
    have e : m_type z1 V = (-3, V) := by unfold m_type; rw [cif_f (hl_22)]
    exact ⟨by rw [e], by rw [e]; exact isW_mk k_4 k_5 k_6 k_7 k_8 k_9 k_10 hT_23 k_11 k_12 k_13 k_14 k_15 k_16 k_17 k_18 k_19 a_g⟩
def q_MW_clearText (D : GG) (x : Nat) (V : WV) : Option Value → Heap → Prop := fun v0 H => v0 = some (zV ((m_clearText V).1)) ∧ isW D H x ((m_clearText V).2)
theorem yv_MW_clearText : Yv y_MW_clearText b_MW_clearText 2 (Option.some FieldType.int) 0 := ⟨g_517, g_53, by decide, by decide +kernel⟩
set_option maxHeartbeats 4000000 in
set_option maxRecDepth 100000 in
theorem c_MW_clearText (l0 : Launch) (D : GG) (x : Nat) (V : WV)  : Ct l0 D y_MW_clearText b_MW_clearText 2 (Option.some FieldType.int) ({ frames := 1, cells := 0, slots := 0, locals := 20 } : Room) [.ref x] (fun H => isW D H x V) (rA x (x + 137)) 0 0 (q_MW_clearText D x V) := by
  refine Ct.of (L := [(0, .ref x)]) (by decide) (Nat.le_of_ble_eq_true rfl) rfl (fun M H ho hr hnm hH hpre => ?_)
  have hW := hpre
  obtain ⟨xpn, xp, xc, xW1, xW2, xW3, xt, xu, xfd, xg, xe1, xe2, xe3, xm1, xm2, xos, xN, xF, a_o, a_n, a_R, a_w, a_k, a_s, a_h, a_t, a_r, a_1, a_2, a_3, a_P, a_T, a_G, a_M, a_Z, a_g⟩ := id hW
  have w_b := a_w.b
  have w_w := a_w.w
  have k_b := a_k.b
  have t_b := a_t.b
  have h_b := a_h.b
  have g_1 := a_g.1.2
  have c_w := a_R.wc
  refine x_aload_n ho 0 d_MW_clearText_0 rfl ?_
  refine x_get 4 ho d_MW_clearText_1 cl_MW (by decide) g_246 a_o rfl ?_
  refine x_callV (rest := []) ho d_MW_clearText_4 yv_TX_length g_511 g_512 g_510 (c_TX_length M.2.1 D (x + 105) V.2.2.2.2 ) rfl rfl ⟨Nat.le_of_ble_eq_true rfl, Nat.le_of_ble_eq_true rfl⟩ ⟨Nat.le_of_ble_eq_true rfl, Nat.le_of_ble_eq_true rfl⟩ rfl rfl (Nat.le_of_ble_eq_true rfl) a_t.1 rfl rfl a_t fr_none' (x_rd (fun v_1 hv_1 => ?_))
  obtain ⟨rfl, hb_3⟩ := hv_1
  show X _ _ _ _ _ _ _ _ _ [zV ((V.2.2.2.2.length : Int))] _
  refine x_istore_n (L' := [(1, zV ((V.2.2.2.2.length : Int))), (0, .ref x)]) ho d_MW_clearText_7 (by decide) rfl ?_
  refine x_aload_n ho 1 d_MW_clearText_8 rfl ?_
  refine x_get 4 ho d_MW_clearText_9 cl_MW (by decide) g_246 a_o rfl ?_
  refine x_callV (rest := []) ho d_MW_clearText_12 yv_TX_clear g_519 g_520 g_518 (c_TX_clear M.2.1 D (x + 105) V.2.2.2.2 ) rfl rfl ⟨Nat.le_of_ble_eq_true rfl, Nat.le_of_ble_eq_true rfl⟩ ⟨Nat.le_of_ble_eq_true rfl, Nat.le_of_ble_eq_true rfl⟩ rfl rfl (Nat.le_of_ble_eq_true rfl) a_t.1 rfl rfl a_t (rA_sub (by omega) (by omega)) (fun v_4 H_6 hv_4 f_5 => ?_)
  have k_7 := a_o.kept (f_5.2 _ a_o.lt (rA_no (by omega)))
  have k_8 := a_n.kept (f_5.2 _ a_n.lt (rA_no (by omega)))
  have k_9 := a_R.kept (fun q g1 g2 => f_5.2 q (by have := a_R.lt; omega) (rA_no (by omega)))
  have k_10 := a_w.kept (fun q g1 g2 => f_5.2 q (by have := a_w.lt; omega) (rA_no (by omega)))
  have k_11 := a_k.kept (fun q g1 g2 => f_5.2 q (by have := a_k.lt; omega) (rA_no (by omega)))
  have k_12 := a_s.kept (fun q g1 g2 => f_5.2 q (by have := a_s.lt; omega) (rA_no (by omega)))
  have k_13 := a_h.kept (fun q g1 g2 => f_5.2 q (by have := a_h.lt; omega) (rA_no (by omega)))
  have k_14 := a_r.kept (fun q g1 g2 => f_5.2 q (by have := a_r.lt; omega) (rA_no (by omega)))
  have k_15 := a_1.kept (fun q g1 g2 => f_5.2 q (by have := a_1.lt; omega) (rA_no (by omega)))
  have k_16 := a_2.kept (fun q g1 g2 => f_5.2 q (by have := a_2.lt; omega) (rA_no (by omega)))
  have k_17 := a_3.kept (fun q g1 g2 => f_5.2 q (by have := a_3.lt; omega) (rA_no (by omega)))
  have k_18 := a_P.kept (fun q g1 g2 => f_5.2 q (by have := a_P.lt; omega) (rA_no (by omega)))
  have k_19 := a_T.kept (fun q g1 g2 => f_5.2 q (by have := a_T.lt; omega) (rA_no (by omega)))
  have k_20 := a_G.kept (fun q g1 g2 => f_5.2 q (by have := a_G.lt; omega) (rA_no (by omega)))
  have k_21 := a_M.kept (fun q g1 g2 => f_5.2 q (by have := a_M.lt; omega) (rA_no (by omega)))
  have k_22 := a_Z.kept (fun q g1 g2 => f_5.2 q (by have := a_Z.lt; omega) (rA_no (by omega)))
  obtain ⟨rfl, hT_23⟩ := hv_4
  show X _ _ _ _ _ _ _ _ _ [] _
  refine x_iload_n ho 0 d_MW_clearText_15 rfl ?_
  refine x_iret ho hr d_MW_clearText_16 ?_
  exact ⟨rfl, isW_mk k_7 k_8 k_9 k_10 k_11 k_12 k_13 hT_23 k_14 k_15 k_16 k_17 k_18 k_19 k_20 k_21 k_22 a_g⟩
def q_MW_keep (D : GG) (x : Nat) (V : WV) : Option Value → Heap → Prop := fun v0 H => v0 = some (zV ((m_keep V).1)) ∧ isW D H x ((m_keep V).2)
theorem yv_MW_keep : Yv y_MW_keep b_MW_keep 1 (Option.some FieldType.int) 0 := ⟨g_537, g_53, by decide, by decide +kernel⟩
set_option maxHeartbeats 4000000 in
set_option maxRecDepth 100000 in
theorem c_MW_keep (l0 : Launch) (D : GG) (x : Nat) (V : WV)  : Ct l0 D y_MW_keep b_MW_keep 1 (Option.some FieldType.int) ({ frames := 4, cells := 0, slots := 0, locals := 125 } : Room) [.ref x] (fun H => isW D H x V) (rA x (x + 137)) 0 0 (q_MW_keep D x V) := by
  refine Ct.of (L := [(0, .ref x)]) (by decide) (Nat.le_of_ble_eq_true rfl) rfl (fun M H ho hr hnm hH hpre => ?_)
  have hW := hpre
  obtain ⟨xpn, xp, xc, xW1, xW2, xW3, xt, xu, xfd, xg, xe1, xe2, xe3, xm1, xm2, xos, xN, xF, a_o, a_n, a_R, a_w, a_k, a_s, a_h, a_t, a_r, a_1, a_2, a_3, a_P, a_T, a_G, a_M, a_Z, a_g⟩ := id hW
  have w_b := a_w.b
  have w_w := a_w.w
  have k_b := a_k.b
  have t_b := a_t.b
  have h_b := a_h.b
  have g_1 := a_g.1.2
  have c_w := a_R.wc
  refine x_aload_n ho 0 d_MW_keep_0 rfl ?_
  refine x_get 1 ho d_MW_keep_1 cl_MW (by decide) g_243 a_o rfl ?_
  refine x_aload_n ho 0 d_MW_keep_4 rfl ?_
  refine x_get 0 ho d_MW_keep_5 cl_MW (by decide) g_242 a_o rfl ?_
  have hS_1 : isS D H (x + 1) V.1 := ⟨a_n, ⟨_, a_R⟩, a_w, a_k⟩
  refine x_callV (rest := []) ho d_MW_keep_8 yv_ST_become g_354 g_355 g_538 (c_ST_become M.2.1 D (x + 18) V.2.1 (x + 1) V.1 (by omega)) rfl rfl ⟨Nat.le_of_ble_eq_true rfl, Nat.le_of_ble_eq_true rfl⟩ ⟨Nat.le_of_ble_eq_true rfl, Nat.le_of_ble_eq_true rfl⟩ rfl rfl (Nat.le_of_ble_eq_true rfl) a_s.1 rfl rfl ⟨a_s, hS_1⟩ (rA_sub (by omega) (by omega)) (fun v_2 H_4 hv_2 f_3 => ?_)
  have k_5 := a_o.kept (f_3.2 _ a_o.lt (rA_no (by omega)))
  have k_6 := a_n.kept (f_3.2 _ a_n.lt (rA_no (by omega)))
  have k_7 := a_R.kept (fun q g1 g2 => f_3.2 q (by have := a_R.lt; omega) (rA_no (by omega)))
  have k_8 := a_w.kept (fun q g1 g2 => f_3.2 q (by have := a_w.lt; omega) (rA_no (by omega)))
  have k_9 := a_k.kept (fun q g1 g2 => f_3.2 q (by have := a_k.lt; omega) (rA_no (by omega)))
  have k_10 := a_h.kept (fun q g1 g2 => f_3.2 q (by have := a_h.lt; omega) (rA_no (by omega)))
  have k_11 := a_t.kept (fun q g1 g2 => f_3.2 q (by have := a_t.lt; omega) (rA_no (by omega)))
  have k_12 := a_r.kept (fun q g1 g2 => f_3.2 q (by have := a_r.lt; omega) (rA_no (by omega)))
  have k_13 := a_1.kept (fun q g1 g2 => f_3.2 q (by have := a_1.lt; omega) (rA_no (by omega)))
  have k_14 := a_2.kept (fun q g1 g2 => f_3.2 q (by have := a_2.lt; omega) (rA_no (by omega)))
  have k_15 := a_3.kept (fun q g1 g2 => f_3.2 q (by have := a_3.lt; omega) (rA_no (by omega)))
  have k_16 := a_P.kept (fun q g1 g2 => f_3.2 q (by have := a_P.lt; omega) (rA_no (by omega)))
  have k_17 := a_T.kept (fun q g1 g2 => f_3.2 q (by have := a_T.lt; omega) (rA_no (by omega)))
  have k_18 := a_G.kept (fun q g1 g2 => f_3.2 q (by have := a_G.lt; omega) (rA_no (by omega)))
  have k_19 := a_M.kept (fun q g1 g2 => f_3.2 q (by have := a_M.lt; omega) (rA_no (by omega)))
  have k_20 := a_Z.kept (fun q g1 g2 => f_3.2 q (by have := a_Z.lt; omega) (rA_no (by omega)))
  obtain ⟨rfl, hS_21, hT_22⟩ := hv_2
  show X _ _ _ _ _ _ _ _ _ [] _
  refine x_aload_n ho 0 d_MW_keep_11 rfl ?_
  refine x_iconst ho d_MW_keep_12 ?_
  refine x_put 2 ho d_MW_keep_13 cl_MW (by decide) g_244 k_5 rfl rfl rfl (Nat.le_of_ble_eq_true rfl) (rA_in (by omega) (by omega)) (fun H_23 p_24 z_25 q_26 => ?_)
  have k_27 := k_6.kept (q_26 _ (by omega))
  have k_28 := k_7.kept (fun q g1 g2 => q_26 q (by omega))
  have k_29 := k_8.kept (fun q g1 g2 => q_26 q (by omega))
  have k_30 := k_9.kept (fun q g1 g2 => q_26 q (by omega))
  have k_31 := k_10.kept (fun q g1 g2 => q_26 q (by omega))
  have k_32 := k_11.kept (fun q g1 g2 => q_26 q (by omega))
  have k_33 := k_12.kept (fun q g1 g2 => q_26 q (by omega))
  have k_34 := k_13.kept (fun q g1 g2 => q_26 q (by omega))
  have k_35 := k_14.kept (fun q g1 g2 => q_26 q (by omega))
  have k_36 := k_15.kept (fun q g1 g2 => q_26 q (by omega))
  have k_37 := k_16.kept (fun q g1 g2 => q_26 q (by omega))
  have k_38 := k_17.kept (fun q g1 g2 => q_26 q (by omega))
  have k_39 := k_18.kept (fun q g1 g2 => q_26 q (by omega))
  have k_40 := k_19.kept (fun q g1 g2 => q_26 q (by omega))
  have k_41 := k_20.kept (fun q g1 g2 => q_26 q (by omega))
  have k_42 := hS_21.kept (fun q g1 g2 => q_26 q (by omega))
  refine x_aload_n ho 0 d_MW_keep_16 rfl ?_
  refine x_get 0 ho d_MW_keep_17 cl_MW (by decide) g_242 p_24 rfl ?_
  refine x_get 1 ho d_MW_keep_20 cl_ST (by decide) g_124 k_27 rfl ?_
  refine x_callV (rest := []) ho d_MW_keep_23 yv_LE_length g_323 g_324 g_428 (c_LE_length M.2.1 D (x + 1 + 13) 300 V.1.2.1 ) rfl rfl ⟨Nat.le_of_ble_eq_true rfl, Nat.le_of_ble_eq_true rfl⟩ ⟨Nat.le_of_ble_eq_true rfl, Nat.le_of_ble_eq_true rfl⟩ rfl rfl (Nat.le_of_ble_eq_true rfl) k_29.1 rfl rfl k_29 fr_none' (x_rd (fun v_43 hv_43 => ?_))
  obtain rfl := hv_43
  show X _ _ _ _ _ _ _ _ _ [zV ((V.1.2.1.length : Int))] _
  refine x_iret ho hr d_MW_keep_26 ?_
  exact ⟨rfl, isW_mk p_24 k_27 k_28 k_29 k_30 k_42 k_31 k_32 k_33 k_34 k_35 k_36 k_37 k_38 k_39 k_40 k_41 ⟨a_g.1, a_g.1, a_g.2.2.1, Or.inr rfl⟩⟩
def q_MW_restore (D : GG) (x : Nat) (V : WV) : Option Value → Heap → Prop := fun v0 H => v0 = some (zV ((m_restore V).1)) ∧ isW D H x ((m_restore V).2)
theorem yv_MW_restore : Yv y_MW_restore b_MW_restore 1 (Option.some FieldType.int) 0 := ⟨g_542, g_53, by decide, by decide +kernel⟩
set_option maxHeartbeats 4000000 in
set_option maxRecDepth 100000 in
theorem c_MW_restore (l0 : Launch) (D : GG) (x : Nat) (V : WV)  : Ct l0 D y_MW_restore b_MW_restore 1 (Option.some FieldType.int) ({ frames := 5, cells := 0, slots := 0, locals := 146 } : Room) [.ref x] (fun H => isW D H x V) (rA x (x + 137)) 0 0 (q_MW_restore D x V) := by
  refine Ct.of (L := [(0, .ref x)]) (by decide) (Nat.le_of_ble_eq_true rfl) rfl (fun M H ho hr hnm hH hpre => ?_)
  have hW := hpre
  obtain ⟨xpn, xp, xc, xW1, xW2, xW3, xt, xu, xfd, xg, xe1, xe2, xe3, xm1, xm2, xos, xN, xF, a_o, a_n, a_R, a_w, a_k, a_s, a_h, a_t, a_r, a_1, a_2, a_3, a_P, a_T, a_G, a_M, a_Z, a_g⟩ := id hW
  have w_b := a_w.b
  have w_w := a_w.w
  have k_b := a_k.b
  have t_b := a_t.b
  have h_b := a_h.b
  have g_1 := a_g.1.2
  have c_w := a_R.wc
  refine x_aload_n ho 0 d_MW_restore_0 rfl ?_
  refine x_get 2 ho d_MW_restore_1 cl_MW (by decide) g_244 a_o rfl ?_
  have hk0 := a_g.2.2.2
  refine x_if_ne (tgt := 10) ho d_MW_restore_4 (by decide) (by omega) (fun c_4 => ?_) (fun c_4 => ?_)
  ·
    refine x_aload_n ho 0 d_MW_restore_10 rfl ?_
    refine x_get 3 ho d_MW_restore_11 cl_MW (by decide) g_245 a_o rfl ?_
    refine x_aload_n ho 0 d_MW_restore_14 rfl ?_
    refine x_get 0 ho d_MW_restore_15 cl_MW (by decide) g_242 a_o rfl ?_
    have hS_1 : isS D H (x + 1) V.1 := ⟨a_n, ⟨_, a_R⟩, a_w, a_k⟩
    refine x_callV (rest := []) ho d_MW_restore_18 yv_HI_record g_347 g_348 g_346 (c_HI_record M.2.1 D (x + 35) V.2.2.2.1 (x + 1) V.1 (by omega)) rfl rfl ⟨Nat.le_of_ble_eq_true rfl, Nat.le_of_ble_eq_true rfl⟩ ⟨Nat.le_of_ble_eq_true rfl, Nat.le_of_ble_eq_true rfl⟩ rfl rfl (Nat.le_of_ble_eq_true rfl) a_h.o rfl rfl ⟨a_h, hS_1⟩ (rA_sub (by omega) (by omega)) (fun v_2 H_4 hv_2 f_3 => ?_)
    have k_5 := a_o.kept (f_3.2 _ a_o.lt (rA_no (by omega)))
    have k_6 := a_n.kept (f_3.2 _ a_n.lt (rA_no (by omega)))
    have k_7 := a_R.kept (fun q g1 g2 => f_3.2 q (by have := a_R.lt; omega) (rA_no (by omega)))
    have k_8 := a_w.kept (fun q g1 g2 => f_3.2 q (by have := a_w.lt; omega) (rA_no (by omega)))
    have k_9 := a_k.kept (fun q g1 g2 => f_3.2 q (by have := a_k.lt; omega) (rA_no (by omega)))
    have k_10 := a_s.kept (fun q g1 g2 => f_3.2 q (by have := a_s.lt; omega) (rA_no (by omega)))
    have k_11 := a_t.kept (fun q g1 g2 => f_3.2 q (by have := a_t.lt; omega) (rA_no (by omega)))
    have k_12 := a_r.kept (fun q g1 g2 => f_3.2 q (by have := a_r.lt; omega) (rA_no (by omega)))
    have k_13 := a_1.kept (fun q g1 g2 => f_3.2 q (by have := a_1.lt; omega) (rA_no (by omega)))
    have k_14 := a_2.kept (fun q g1 g2 => f_3.2 q (by have := a_2.lt; omega) (rA_no (by omega)))
    have k_15 := a_3.kept (fun q g1 g2 => f_3.2 q (by have := a_3.lt; omega) (rA_no (by omega)))
    have k_16 := a_P.kept (fun q g1 g2 => f_3.2 q (by have := a_P.lt; omega) (rA_no (by omega)))
    have k_17 := a_T.kept (fun q g1 g2 => f_3.2 q (by have := a_T.lt; omega) (rA_no (by omega)))
    have k_18 := a_G.kept (fun q g1 g2 => f_3.2 q (by have := a_G.lt; omega) (rA_no (by omega)))
    have k_19 := a_M.kept (fun q g1 g2 => f_3.2 q (by have := a_M.lt; omega) (rA_no (by omega)))
    have k_20 := a_Z.kept (fun q g1 g2 => f_3.2 q (by have := a_Z.lt; omega) (rA_no (by omega)))
    obtain ⟨rfl, hX_21, hS_22⟩ := hv_2
    show X _ _ _ _ _ _ _ _ _ [] _
    refine x_aload_n ho 0 d_MW_restore_21 rfl ?_
    refine x_get 0 ho d_MW_restore_22 cl_MW (by decide) g_242 k_5 rfl ?_
    refine x_aload_n ho 0 d_MW_restore_25 rfl ?_
    refine x_get 1 ho d_MW_restore_26 cl_MW (by decide) g_243 k_5 rfl ?_
    have hS_23 : isS D H_4 (x + 1) V.1 := ⟨k_6, ⟨_, k_7⟩, k_8, k_9⟩
    refine x_callV (rest := []) ho d_MW_restore_29 yv_ST_become g_354 g_355 g_538 (c_ST_become M.2.1 D (x + 1) V.1 (x + 18) V.2.1 (by omega)) rfl rfl ⟨Nat.le_of_ble_eq_true rfl, Nat.le_of_ble_eq_true rfl⟩ ⟨Nat.le_of_ble_eq_true rfl, Nat.le_of_ble_eq_true rfl⟩ rfl rfl (Nat.le_of_ble_eq_true rfl) hS_23.1 rfl rfl ⟨hS_23, k_10⟩ (rA_sub (by omega) (by omega)) (fun v_24 H_26 hv_24 f_25 => ?_)
    have k_27 := k_5.kept (f_25.2 _ k_5.lt (rA_no (by omega)))
    have k_28 := k_11.kept (fun q g1 g2 => f_25.2 q (by have := k_11.lt; omega) (rA_no (by omega)))
    have k_29 := k_12.kept (fun q g1 g2 => f_25.2 q (by have := k_12.lt; omega) (rA_no (by omega)))
    have k_30 := k_13.kept (fun q g1 g2 => f_25.2 q (by have := k_13.lt; omega) (rA_no (by omega)))
    have k_31 := k_14.kept (fun q g1 g2 => f_25.2 q (by have := k_14.lt; omega) (rA_no (by omega)))
    have k_32 := k_15.kept (fun q g1 g2 => f_25.2 q (by have := k_15.lt; omega) (rA_no (by omega)))
    have k_33 := k_16.kept (fun q g1 g2 => f_25.2 q (by have := k_16.lt; omega) (rA_no (by omega)))
    have k_34 := k_17.kept (fun q g1 g2 => f_25.2 q (by have := k_17.lt; omega) (rA_no (by omega)))
    have k_35 := k_18.kept (fun q g1 g2 => f_25.2 q (by have := k_18.lt; omega) (rA_no (by omega)))
    have k_36 := k_19.kept (fun q g1 g2 => f_25.2 q (by have := k_19.lt; omega) (rA_no (by omega)))
    have k_37 := k_20.kept (fun q g1 g2 => f_25.2 q (by have := k_20.lt; omega) (rA_no (by omega)))
    have k_38 := hX_21.kept (fun q g1 g2 => f_25.2 q (by have := hX_21.lt; omega) (rA_no (by omega)))
    obtain ⟨rfl, hS_39, hT_40⟩ := hv_24
    show X _ _ _ _ _ _ _ _ _ [] _
    obtain ⟨b_o, ⟨b_p, b_R⟩, b_w, b_k⟩ := id hS_39
    have b_b := b_w.b
    refine x_aload_n ho 0 d_MW_restore_32 rfl ?_
    refine x_get 0 ho d_MW_restore_33 cl_MW (by decide) g_242 k_27 rfl ?_
    refine x_get 1 ho d_MW_restore_36 cl_ST (by decide) g_124 b_o rfl ?_
    refine x_callV (rest := []) ho d_MW_restore_39 yv_LE_length g_323 g_324 g_428 (c_LE_length M.2.1 D (x + 1 + 13) 300 V.2.1.2.1 ) rfl rfl ⟨Nat.le_of_ble_eq_true rfl, Nat.le_of_ble_eq_true rfl⟩ ⟨Nat.le_of_ble_eq_true rfl, Nat.le_of_ble_eq_true rfl⟩ rfl rfl (Nat.le_of_ble_eq_true rfl) b_w.1 rfl rfl b_w fr_none' (x_rd (fun v_41 hv_41 => ?_))
    obtain rfl := hv_41
    show X _ _ _ _ _ _ _ _ _ [zV ((V.2.1.2.1.length : Int))] _
    refine x_iret ho hr d_MW_restore_42 ?_
    have e : m_restore V = ((V.2.1.2.1.length : Int), act V.2.1 V) := by unfold m_restore; rw [cif_f (c_4)]
    exact ⟨by rw [e], by rw [e]; exact isW_mk k_27 b_o b_R b_w b_k hT_40 k_38 k_28 k_29 k_30 k_31 k_32 k_33 k_34 k_35 k_36 k_37 (gd_act a_g a_g.2.1)⟩
  ·
    refine x_bipush (z := (-5)) ho d_MW_restore_7 (by decide) ?_
    refine x_iret ho hr d_MW_restore_9 ?_
    have e : m_restore V = (-5, V) := by unfold m_restore; rw [cif_t (c_4)]
    exact ⟨by rw [e], by rw [e]; exact isW_mk a_o a_n a_R a_w a_k a_s a_h a_t a_r a_1 a_2 a_3 a_P a_T a_G a_M a_Z a_g⟩
def q_MW_undo (D : GG) (x : Nat) (V : WV) : Option Value → Heap → Prop := fun v0 H => v0 = some (zV ((m_undo V).1)) ∧ isW D H x ((m_undo V).2)
theorem yv_MW_undo : Yv y_MW_undo b_MW_undo 1 (Option.some FieldType.int) 0 := ⟨g_525, g_53, by decide, by decide +kernel⟩
set_option maxHeartbeats 4000000 in
set_option maxRecDepth 100000 in
theorem c_MW_undo (l0 : Launch) (D : GG) (x : Nat) (V : WV)  : Ct l0 D y_MW_undo b_MW_undo 1 (Option.some FieldType.int) ({ frames := 5, cells := 0, slots := 0, locals := 146 } : Room) [.ref x] (fun H => isW D H x V) (rA x (x + 137)) 0 0 (q_MW_undo D x V) := by
  refine Ct.of (L := [(0, .ref x)]) (by decide) (Nat.le_of_ble_eq_true rfl) rfl (fun M H ho hr hnm hH hpre => ?_)
  have hW := hpre
  obtain ⟨xpn, xp, xc, xW1, xW2, xW3, xt, xu, xfd, xg, xe1, xe2, xe3, xm1, xm2, xos, xN, xF, a_o, a_n, a_R, a_w, a_k, a_s, a_h, a_t, a_r, a_1, a_2, a_3, a_P, a_T, a_G, a_M, a_Z, a_g⟩ := id hW
  have w_b := a_w.b
  have w_w := a_w.w
  have k_b := a_k.b
  have t_b := a_t.b
  have h_b := a_h.b
  have g_1 := a_g.1.2
  have c_w := a_R.wc
  refine x_aload_n ho 0 d_MW_undo_0 rfl ?_
  refine x_get 3 ho d_MW_undo_1 cl_MW (by decide) g_245 a_o rfl ?_
  refine x_aload_n ho 0 d_MW_undo_4 rfl ?_
  refine x_get 0 ho d_MW_undo_5 cl_MW (by decide) g_242 a_o rfl ?_
  have hS_1 : isS D H (x + 1) V.1 := ⟨a_n, ⟨_, a_R⟩, a_w, a_k⟩
  refine x_callV (rest := []) ho d_MW_undo_8 yv_HI_takeBack g_527 g_528 g_526 (c_HI_takeBack M.2.1 D (x + 35) V.2.2.2.1 (x + 1) V.1 (by omega)) rfl rfl ⟨Nat.le_of_ble_eq_true rfl, Nat.le_of_ble_eq_true rfl⟩ ⟨Nat.le_of_ble_eq_true rfl, Nat.le_of_ble_eq_true rfl⟩ rfl rfl (Nat.le_of_ble_eq_true rfl) a_h.o rfl rfl ⟨a_h, hS_1⟩ (fun z hz => by rcases hz with ⟨z1, z2⟩ | ⟨z1, z2⟩ <;> exact rA_in (by omega) (by omega)) (fun v_2 H_4 hv_2 f_3 => ?_)
  have k_5 := a_o.kept (f_3.2 _ a_o.lt (fun z => by rcases z with ⟨z1, z2⟩ | ⟨z1, z2⟩ <;> omega))
  have k_6 := a_s.kept (fun q g1 g2 => f_3.2 q (by have := a_s.lt; omega) (fun z => by rcases z with ⟨z1, z2⟩ | ⟨z1, z2⟩ <;> omega))
  have k_7 := a_t.kept (fun q g1 g2 => f_3.2 q (by have := a_t.lt; omega) (fun z => by rcases z with ⟨z1, z2⟩ | ⟨z1, z2⟩ <;> omega))
  have k_8 := a_r.kept (fun q g1 g2 => f_3.2 q (by have := a_r.lt; omega) (fun z => by rcases z with ⟨z1, z2⟩ | ⟨z1, z2⟩ <;> omega))
  have k_9 := a_1.kept (fun q g1 g2 => f_3.2 q (by have := a_1.lt; omega) (fun z => by rcases z with ⟨z1, z2⟩ | ⟨z1, z2⟩ <;> omega))
  have k_10 := a_2.kept (fun q g1 g2 => f_3.2 q (by have := a_2.lt; omega) (fun z => by rcases z with ⟨z1, z2⟩ | ⟨z1, z2⟩ <;> omega))
  have k_11 := a_3.kept (fun q g1 g2 => f_3.2 q (by have := a_3.lt; omega) (fun z => by rcases z with ⟨z1, z2⟩ | ⟨z1, z2⟩ <;> omega))
  have k_12 := a_P.kept (fun q g1 g2 => f_3.2 q (by have := a_P.lt; omega) (fun z => by rcases z with ⟨z1, z2⟩ | ⟨z1, z2⟩ <;> omega))
  have k_13 := a_T.kept (fun q g1 g2 => f_3.2 q (by have := a_T.lt; omega) (fun z => by rcases z with ⟨z1, z2⟩ | ⟨z1, z2⟩ <;> omega))
  have k_14 := a_G.kept (fun q g1 g2 => f_3.2 q (by have := a_G.lt; omega) (fun z => by rcases z with ⟨z1, z2⟩ | ⟨z1, z2⟩ <;> omega))
  have k_15 := a_M.kept (fun q g1 g2 => f_3.2 q (by have := a_M.lt; omega) (fun z => by rcases z with ⟨z1, z2⟩ | ⟨z1, z2⟩ <;> omega))
  have k_16 := a_Z.kept (fun q g1 g2 => f_3.2 q (by have := a_Z.lt; omega) (fun z => by rcases z with ⟨z1, z2⟩ | ⟨z1, z2⟩ <;> omega))
  rcases hv_2 with ⟨rfl, hl_17, hX_18, hS_19⟩ | ⟨rfl, hl_20, hX_21, hS_22⟩
  ·
    show X _ _ _ _ _ _ _ _ _ [zV 0] _
    obtain ⟨b_o, ⟨b_p, b_R⟩, b_w, b_k⟩ := id hS_19
    refine x_if_eq (tgt := 24) ho d_MW_undo_11 (by decide) (by omega) (fun _ => ?_) (fun c => absurd c (by decide))
    refine x_bipush (z := (-5)) ho d_MW_undo_24 (by decide) ?_
    refine x_iret ho hr d_MW_undo_26 ?_
    have e : m_undo V = (-5, V) := by unfold m_undo; rw [cif_t (hl_17)]
    exact ⟨by rw [e], by rw [e]; exact isW_mk k_5 b_o b_R b_w b_k k_6 hX_18 k_7 k_8 k_9 k_10 k_11 k_12 k_13 k_14 k_15 k_16 a_g⟩
  ·
    show X _ _ _ _ _ _ _ _ _ [zV 1] _
    obtain ⟨b_o, ⟨b_p, b_R⟩, b_w, b_k⟩ := id hS_22
    refine x_if_eq (tgt := 24) ho d_MW_undo_11 (by decide) (by omega) (fun c => absurd c (by decide)) (fun _ => ?_)
    refine x_aload_n ho 0 d_MW_undo_14 rfl ?_
    refine x_get 3 ho d_MW_undo_15 cl_MW (by decide) g_245 k_5 rfl ?_
    refine x_callV (rest := []) ho d_MW_undo_18 yv_HI_held g_531 g_532 g_530 (c_HI_held M.2.1 D (x + 35) V.2.2.2.1.dropLast ) rfl rfl ⟨Nat.le_of_ble_eq_true rfl, Nat.le_of_ble_eq_true rfl⟩ ⟨Nat.le_of_ble_eq_true rfl, Nat.le_of_ble_eq_true rfl⟩ rfl rfl (Nat.le_of_ble_eq_true rfl) hX_21.o rfl rfl hX_21 fr_none' (x_rd (fun v_23 hv_23 => ?_))
    obtain ⟨rfl, hn_25⟩ := hv_23
    show X _ _ _ _ _ _ _ _ _ [zV ((V.2.2.2.1.dropLast.length : Int))] _
    refine x_goto (tgt := 26) ho d_MW_undo_21 (by decide) ?_
    refine x_iret ho hr d_MW_undo_26 ?_
    have e : m_undo V = ((V.2.2.2.1.length : Int) - 1, (gH V.2.2.2.1 ((V.2.2.2.1.length : Int) - 1), V.2.1, V.2.2.1, V.2.2.2.1.dropLast, V.2.2.2.2)) := by unfold m_undo; rw [cif_f (hl_20)]
    exact ⟨rI (by rw [e]; rw [List.length_dropLast]; have := len_ne hl_20; omega), by rw [e]; exact isW_mk k_5 b_o b_R b_w b_k k_6 hX_21 k_7 k_8 k_9 k_10 k_11 k_12 k_13 k_14 k_15 k_16 (gd_undo a_g hl_20)⟩
def q_MW_swap (D : GG) (x : Nat) (V : WV) (z1 : Int) (z2 : Int) : Option Value → Heap → Prop := fun v0 H => v0 = some (zV ((m_swap z1 z2 V).1)) ∧ isW D H x ((m_swap z1 z2 V).2)
theorem yv_MW_swap : Yv y_MW_swap b_MW_swap 4 (Option.some FieldType.int) 2 := ⟨g_409, g_53, by decide, by decide +kernel⟩
set_option maxHeartbeats 4000000 in
set_option maxRecDepth 100000 in
theorem c_MW_swap (l0 : Launch) (D : GG) (x : Nat) (V : WV) (z1 : Int) (z2 : Int) (hz1 : -2147483648 ≤ z1 ∧ z1 ≤ 2147483647) (hz2 : -2147483648 ≤ z2 ∧ z2 ≤ 2147483647) : Ct l0 D y_MW_swap b_MW_swap 4 (Option.some FieldType.int) ({ frames := 5, cells := 0, slots := 0, locals := 146 } : Room) [.ref x, zV z1, zV z2] (fun H => isW D H x V) (rA x (x + 137)) 0 0 (q_MW_swap D x V z1 z2) := by
  refine Ct.of (L := [(0, .ref x), (1, zV z1), (2, zV z2)]) (by decide) (Nat.le_of_ble_eq_true rfl) rfl (fun M H ho hr hnm hH hpre => ?_)
  have hW := hpre
  obtain ⟨xpn, xp, xc, xW1, xW2, xW3, xt, xu, xfd, xg, xe1, xe2, xe3, xm1, xm2, xos, xN, xF, a_o, a_n, a_R, a_w, a_k, a_s, a_h, a_t, a_r, a_1, a_2, a_3, a_P, a_T, a_G, a_M, a_Z, a_g⟩ := id hW
  have w_b := a_w.b
  have w_w := a_w.w
  have k_b := a_k.b
  have t_b := a_t.b
  have h_b := a_h.b
  have g_1 := a_g.1.2
  have c_w := a_R.wc
  refine x_iload_n ho 1 d_MW_swap_0 rfl ?_
  refine x_callS (rest := []) ho d_MW_swap_1 yv_MW_isLetter g_109 g_410 (c_MW_isLetter M.2.1 D z1 (by omega)) rfl rfl ⟨Nat.le_of_ble_eq_true rfl, Nat.le_of_ble_eq_true rfl⟩ ⟨Nat.le_of_ble_eq_true rfl, Nat.le_of_ble_eq_true rfl⟩ rfl rfl (Nat.le_of_ble_eq_true rfl) trivial fr_none' (x_rd (fun v_1 hv_1 => ?_))
  obtain rfl := hv_1
  show X _ _ _ _ _ _ _ _ _ [zV (bI (0 ≤ z1 ∧ z1 < 4))] _
  refine x_if_eqB (tgt := 14) ho d_MW_swap_4 (by decide) (fun c_4 => ?_) (fun c_4 => ?_)
  ·
    refine x_iconst ho d_MW_swap_14 ?_
    refine x_iret ho hr d_MW_swap_15 ?_
    have e : m_swap z1 z2 V = (-1, V) := by unfold m_swap; rw [cif_f (fun q => c_4 q.1)]
    exact ⟨by rw [e], by rw [e]; exact isW_mk a_o a_n a_R a_w a_k a_s a_h a_t a_r a_1 a_2 a_3 a_P a_T a_G a_M a_Z a_g⟩
  ·
    refine x_iload_n ho 2 d_MW_swap_7 rfl ?_
    refine x_callS (rest := []) ho d_MW_swap_8 yv_MW_isLetter g_109 g_410 (c_MW_isLetter M.2.1 D z2 (by omega)) rfl rfl ⟨Nat.le_of_ble_eq_true rfl, Nat.le_of_ble_eq_true rfl⟩ ⟨Nat.le_of_ble_eq_true rfl, Nat.le_of_ble_eq_true rfl⟩ rfl rfl (Nat.le_of_ble_eq_true rfl) trivial fr_none' (x_rd (fun v_3 hv_3 => ?_))
    obtain rfl := hv_3
    show X _ _ _ _ _ _ _ _ _ [zV (bI (0 ≤ z2 ∧ z2 < 4))] _
    refine x_if_neB (tgt := 16) ho d_MW_swap_11 (by decide) (fun c_11 => ?_) (fun c_11 => ?_)
    ·
      refine x_iload_n ho 1 d_MW_swap_16 rfl ?_
      refine x_iload_n ho 2 d_MW_swap_17 rfl ?_
      refine x_icmp_ne (tgt := 24) ho d_MW_swap_18 (by decide) (by omega) (by omega) (fun c_18 => ?_) (fun c_18 => ?_)
      ·
        refine x_aload_n ho 0 d_MW_swap_24 rfl ?_
        refine x_get 0 ho d_MW_swap_25 cl_MW (by decide) g_242 a_o rfl ?_
        refine x_get 1 ho d_MW_swap_28 cl_ST (by decide) g_124 a_n rfl ?_
        refine x_iload_n ho 1 d_MW_swap_31 rfl ?_
        refine x_callV (rest := []) ho d_MW_swap_32 yv_LE_countOf g_412 g_413 g_411 (c_LE_countOf M.2.1 D (x + 1 + 13) 300 V.1.2.1 z1 (by omega)) rfl rfl ⟨Nat.le_of_ble_eq_true rfl, Nat.le_of_ble_eq_true rfl⟩ ⟨Nat.le_of_ble_eq_true rfl, Nat.le_of_ble_eq_true rfl⟩ rfl rfl (Nat.le_of_ble_eq_true rfl) a_w.1 rfl rfl a_w fr_none' (x_rd (fun v_5 hv_5 => ?_))
        obtain ⟨rfl, hr_7⟩ := hv_5
        show X _ _ _ _ _ _ _ _ _ [zV (cn V.1.2.1 z1)] _
        refine x_aload_n ho 0 d_MW_swap_35 rfl ?_
        refine x_get 0 ho d_MW_swap_36 cl_MW (by decide) g_242 a_o rfl ?_
        refine x_get 1 ho d_MW_swap_39 cl_ST (by decide) g_124 a_n rfl ?_
        refine x_iload_n ho 2 d_MW_swap_42 rfl ?_
        refine x_callV (rest := [zV (cn V.1.2.1 z1)]) ho d_MW_swap_43 yv_LE_countOf g_412 g_413 g_411 (c_LE_countOf M.2.1 D (x + 1 + 13) 300 V.1.2.1 z2 (by omega)) rfl rfl ⟨Nat.le_of_ble_eq_true rfl, Nat.le_of_ble_eq_true rfl⟩ ⟨Nat.le_of_ble_eq_true rfl, Nat.le_of_ble_eq_true rfl⟩ rfl rfl (Nat.le_of_ble_eq_true rfl) a_w.1 rfl rfl a_w fr_none' (x_rd (fun v_8 hv_8 => ?_))
        obtain ⟨rfl, hr_10⟩ := hv_8
        show X _ _ _ _ _ _ _ _ _ [zV (cn V.1.2.1 z2), zV (cn V.1.2.1 z1)] _
        refine x_iadd ho d_MW_swap_46 ?_
        refine x_istore_n (L' := [(3, zV ((cn V.1.2.1 z1) + (cn V.1.2.1 z2))), (0, .ref x), (1, zV z1), (2, zV z2)]) ho d_MW_swap_47 (by decide) rfl ?_
        refine x_aload_n ho 1 d_MW_swap_48 rfl ?_
        refine x_get 3 ho d_MW_swap_49 cl_MW (by decide) g_245 a_o rfl ?_
        refine x_aload_n ho 1 d_MW_swap_52 rfl ?_
        refine x_get 0 ho d_MW_swap_53 cl_MW (by decide) g_242 a_o rfl ?_
        have hS_11 : isS D H (x + 1) V.1 := ⟨a_n, ⟨_, a_R⟩, a_w, a_k⟩
        refine x_callV (rest := []) ho d_MW_swap_56 yv_HI_record g_347 g_348 g_346 (c_HI_record M.2.1 D (x + 35) V.2.2.2.1 (x + 1) V.1 (by omega)) rfl rfl ⟨Nat.le_of_ble_eq_true rfl, Nat.le_of_ble_eq_true rfl⟩ ⟨Nat.le_of_ble_eq_true rfl, Nat.le_of_ble_eq_true rfl⟩ rfl rfl (Nat.le_of_ble_eq_true rfl) a_h.o rfl rfl ⟨a_h, hS_11⟩ (rA_sub (by omega) (by omega)) (fun v_12 H_14 hv_12 f_13 => ?_)
        have k_15 := a_o.kept (f_13.2 _ a_o.lt (rA_no (by omega)))
        have k_16 := a_n.kept (f_13.2 _ a_n.lt (rA_no (by omega)))
        have k_17 := a_R.kept (fun q g1 g2 => f_13.2 q (by have := a_R.lt; omega) (rA_no (by omega)))
        have k_18 := a_w.kept (fun q g1 g2 => f_13.2 q (by have := a_w.lt; omega) (rA_no (by omega)))
        have k_19 := a_k.kept (fun q g1 g2 => f_13.2 q (by have := a_k.lt; omega) (rA_no (by omega)))
        have k_20 := a_s.kept (fun q g1 g2 => f_13.2 q (by have := a_s.lt; omega) (rA_no (by omega)))
        have k_21 := a_t.kept (fun q g1 g2 => f_13.2 q (by have := a_t.lt; omega) (rA_no (by omega)))
        have k_22 := a_r.kept (fun q g1 g2 => f_13.2 q (by have := a_r.lt; omega) (rA_no (by omega)))
        have k_23 := a_1.kept (fun q g1 g2 => f_13.2 q (by have := a_1.lt; omega) (rA_no (by omega)))
        have k_24 := a_2.kept (fun q g1 g2 => f_13.2 q (by have := a_2.lt; omega) (rA_no (by omega)))
        have k_25 := a_3.kept (fun q g1 g2 => f_13.2 q (by have := a_3.lt; omega) (rA_no (by omega)))
        have k_26 := a_P.kept (fun q g1 g2 => f_13.2 q (by have := a_P.lt; omega) (rA_no (by omega)))
        have k_27 := a_T.kept (fun q g1 g2 => f_13.2 q (by have := a_T.lt; omega) (rA_no (by omega)))
        have k_28 := a_G.kept (fun q g1 g2 => f_13.2 q (by have := a_G.lt; omega) (rA_no (by omega)))
        have k_29 := a_M.kept (fun q g1 g2 => f_13.2 q (by have := a_M.lt; omega) (rA_no (by omega)))
        have k_30 := a_Z.kept (fun q g1 g2 => f_13.2 q (by have := a_Z.lt; omega) (rA_no (by omega)))
        obtain ⟨rfl, hX_31, hS_32⟩ := hv_12
        show X _ _ _ _ _ _ _ _ _ [] _
        refine x_aload_n ho 1 d_MW_swap_59 rfl ?_
        refine x_get 0 ho d_MW_swap_60 cl_MW (by decide) g_242 k_15 rfl ?_
        refine x_get 0 ho d_MW_swap_63 cl_ST (by decide) g_122 k_16 rfl ?_
        refine x_iload_n ho 2 d_MW_swap_66 rfl ?_
        refine x_iload_n ho 3 d_MW_swap_67 rfl ?_
        refine x_callV (rest := []) ho d_MW_swap_68 yv_RU_exchange g_416 g_417 g_415 (c_RU_exchange M.2.1 D (x + 1 + 1) xpn V.1.1 z1 z2 (by omega) (by omega) (by omega)) rfl rfl ⟨Nat.le_of_ble_eq_true rfl, Nat.le_of_ble_eq_true rfl⟩ ⟨Nat.le_of_ble_eq_true rfl, Nat.le_of_ble_eq_true rfl⟩ rfl rfl (Nat.le_of_ble_eq_true rfl) k_17.1 rfl rfl k_17 (rA_sub (by omega) (by omega)) (fun v_33 H_35 hv_33 f_34 => ?_)
        have k_36 := k_15.kept (f_34.2 _ k_15.lt (rA_no (by omega)))
        have k_37 := k_16.kept (f_34.2 _ k_16.lt (rA_no (by omega)))
        have k_38 := k_18.kept (fun q g1 g2 => f_34.2 q (by have := k_18.lt; omega) (rA_no (by omega)))
        have k_39 := k_19.kept (fun q g1 g2 => f_34.2 q (by have := k_19.lt; omega) (rA_no (by omega)))
        have k_40 := k_20.kept (fun q g1 g2 => f_34.2 q (by have := k_20.lt; omega) (rA_no (by omega)))
        have k_41 := k_21.kept (fun q g1 g2 => f_34.2 q (by have := k_21.lt; omega) (rA_no (by omega)))
        have k_42 := k_22.kept (fun q g1 g2 => f_34.2 q (by have := k_22.lt; omega) (rA_no (by omega)))
        have k_43 := k_23.kept (fun q g1 g2 => f_34.2 q (by have := k_23.lt; omega) (rA_no (by omega)))
        have k_44 := k_24.kept (fun q g1 g2 => f_34.2 q (by have := k_24.lt; omega) (rA_no (by omega)))
        have k_45 := k_25.kept (fun q g1 g2 => f_34.2 q (by have := k_25.lt; omega) (rA_no (by omega)))
        have k_46 := k_26.kept (fun q g1 g2 => f_34.2 q (by have := k_26.lt; omega) (rA_no (by omega)))
        have k_47 := k_27.kept (fun q g1 g2 => f_34.2 q (by have := k_27.lt; omega) (rA_no (by omega)))
        have k_48 := k_28.kept (fun q g1 g2 => f_34.2 q (by have := k_28.lt; omega) (rA_no (by omega)))
        have k_49 := k_29.kept (fun q g1 g2 => f_34.2 q (by have := k_29.lt; omega) (rA_no (by omega)))
        have k_50 := k_30.kept (fun q g1 g2 => f_34.2 q (by have := k_30.lt; omega) (rA_no (by omega)))
        have k_51 := hX_31.kept (fun q g1 g2 => f_34.2 q (by have := hX_31.lt; omega) (rA_no (by omega)))
        obtain ⟨rfl, hR_52⟩ := hv_33
        show X _ _ _ _ _ _ _ _ _ [] _
        refine x_aload_n ho 1 d_MW_swap_71 rfl ?_
        refine x_get 0 ho d_MW_swap_72 cl_MW (by decide) g_242 k_36 rfl ?_
        refine x_get 1 ho d_MW_swap_75 cl_ST (by decide) g_124 k_37 rfl ?_
        refine x_iload_n ho 2 d_MW_swap_78 rfl ?_
        refine x_iload_n ho 3 d_MW_swap_79 rfl ?_
        refine x_callV (rest := []) ho d_MW_swap_80 yv_LE_exchange g_420 g_421 g_423 (c_LE_exchange M.2.1 D (x + 1 + 13) 300 V.1.2.1 z1 z2 (by omega) (by omega)) rfl rfl ⟨Nat.le_of_ble_eq_true rfl, Nat.le_of_ble_eq_true rfl⟩ ⟨Nat.le_of_ble_eq_true rfl, Nat.le_of_ble_eq_true rfl⟩ rfl rfl (Nat.le_of_ble_eq_true rfl) k_38.1 rfl rfl k_38 (rA_sub (by omega) (by omega)) (fun v_53 H_55 hv_53 f_54 => ?_)
        have k_56 := k_36.kept (f_54.2 _ k_36.lt (rA_no (by omega)))
        have k_57 := k_37.kept (f_54.2 _ k_37.lt (rA_no (by omega)))
        have k_58 := k_39.kept (fun q g1 g2 => f_54.2 q (by have := k_39.lt; omega) (rA_no (by omega)))
        have k_59 := k_40.kept (fun q g1 g2 => f_54.2 q (by have := k_40.lt; omega) (rA_no (by omega)))
        have k_60 := k_41.kept (fun q g1 g2 => f_54.2 q (by have := k_41.lt; omega) (rA_no (by omega)))
        have k_61 := k_42.kept (fun q g1 g2 => f_54.2 q (by have := k_42.lt; omega) (rA_no (by omega)))
        have k_62 := k_43.kept (fun q g1 g2 => f_54.2 q (by have := k_43.lt; omega) (rA_no (by omega)))
        have k_63 := k_44.kept (fun q g1 g2 => f_54.2 q (by have := k_44.lt; omega) (rA_no (by omega)))
        have k_64 := k_45.kept (fun q g1 g2 => f_54.2 q (by have := k_45.lt; omega) (rA_no (by omega)))
        have k_65 := k_46.kept (fun q g1 g2 => f_54.2 q (by have := k_46.lt; omega) (rA_no (by omega)))
        have k_66 := k_47.kept (fun q g1 g2 => f_54.2 q (by have := k_47.lt; omega) (rA_no (by omega)))
        have k_67 := k_48.kept (fun q g1 g2 => f_54.2 q (by have := k_48.lt; omega) (rA_no (by omega)))
        have k_68 := k_49.kept (fun q g1 g2 => f_54.2 q (by have := k_49.lt; omega) (rA_no (by omega)))
        have k_69 := k_50.kept (fun q g1 g2 => f_54.2 q (by have := k_50.lt; omega) (rA_no (by omega)))
        have k_70 := k_51.kept (fun q g1 g2 => f_54.2 q (by have := k_51.lt; omega) (rA_no (by omega)))
        have k_71 := hR_52.kept (fun q g1 g2 => f_54.2 q (by have := hR_52.lt; omega) (rA_no (by omega)))
        obtain ⟨rfl, hL_72⟩ := hv_53
        show X _ _ _ _ _ _ _ _ _ [] _
        refine x_iload_n ho 0 d_MW_swap_83 rfl ?_
        refine x_iret ho hr d_MW_swap_84 ?_
        have e : m_swap z1 z2 V = (cn V.1.2.1 z1 + cn V.1.2.1 z2, act (fun i => (V.1.1 (sw z1 z2 i)).map (sw z1 z2), V.1.2.1.map (sw z1 z2), V.1.2.2) V) := by unfold m_swap; rw [cif_t (⟨c_4, c_11⟩), cif_f (c_18)]
        exact ⟨by rw [e], by rw [e]; exact isW_mk k_56 k_57 k_71 hL_72 k_58 k_59 k_70 k_60 k_61 k_62 k_63 k_64 k_65 k_66 k_67 k_68 k_69 (gd_act a_g (gd_sw a_g.1 c_4 c_11))⟩
      ·
        refine x_bipush (z := (-5)) ho d_MW_swap_21 (by decide) ?_
        refine x_iret ho hr d_MW_swap_23 ?_
        have e : m_swap z1 z2 V = (-5, V) := by unfold m_swap; rw [cif_t (⟨c_4, c_11⟩), cif_t (c_18)]
        exact ⟨by rw [e], by rw [e]; exact isW_mk a_o a_n a_R a_w a_k a_s a_h a_t a_r a_1 a_2 a_3 a_P a_T a_G a_M a_Z a_g⟩
    ·
      refine x_iconst ho d_MW_swap_14 ?_
      refine x_iret ho hr d_MW_swap_15 ?_
      have e : m_swap z1 z2 V = (-1, V) := by unfold m_swap; rw [cif_f (fun q => c_11 q.2)]
      exact ⟨by rw [e], by rw [e]; exact isW_mk a_o a_n a_R a_w a_k a_s a_h a_t a_r a_1 a_2 a_3 a_P a_T a_G a_M a_Z a_g⟩
def q_MW_start (D : GG) (x : Nat) (V : WV) (z1 : Int) : Option Value → Heap → Prop := fun v0 H => v0 = some (zV ((m_start z1 V).1)) ∧ isW D H x ((m_start z1 V).2)
theorem yv_MW_start : Yv y_MW_start b_MW_start 3 (Option.some FieldType.int) 1 := ⟨g_427, g_53, by decide, by decide +kernel⟩
set_option maxHeartbeats 4000000 in
set_option maxRecDepth 100000 in
theorem c_MW_start (l0 : Launch) (D : GG) (x : Nat) (V : WV) (z1 : Int) (hz1 : -2147483648 ≤ z1 ∧ z1 ≤ 2147483647) : Ct l0 D y_MW_start b_MW_start 3 (Option.some FieldType.int) ({ frames := 6, cells := 0, slots := 0, locals := 166 } : Room) [.ref x, zV z1] (fun H => isW D H x V) (rA x (x + 137)) 0 0 (q_MW_start D x V z1) := by
  refine Ct.of (L := [(0, .ref x), (1, zV z1)]) (by decide) (Nat.le_of_ble_eq_true rfl) rfl (fun M H ho hr hnm hH hpre => ?_)
  have hW := hpre
  obtain ⟨xpn, xp, xc, xW1, xW2, xW3, xt, xu, xfd, xg, xe1, xe2, xe3, xm1, xm2, xos, xN, xF, a_o, a_n, a_R, a_w, a_k, a_s, a_h, a_t, a_r, a_1, a_2, a_3, a_P, a_T, a_G, a_M, a_Z, a_g⟩ := id hW
  have w_b := a_w.b
  have w_w := a_w.w
  have k_b := a_k.b
  have t_b := a_t.b
  have h_b := a_h.b
  have g_1 := a_g.1.2
  have c_w := a_R.wc
  refine x_iload_n ho 1 d_MW_start_0 rfl ?_
  refine x_callS (rest := []) ho d_MW_start_1 yv_MW_isLetter g_109 g_410 (c_MW_isLetter M.2.1 D z1 (by omega)) rfl rfl ⟨Nat.le_of_ble_eq_true rfl, Nat.le_of_ble_eq_true rfl⟩ ⟨Nat.le_of_ble_eq_true rfl, Nat.le_of_ble_eq_true rfl⟩ rfl rfl (Nat.le_of_ble_eq_true rfl) trivial fr_none' (x_rd (fun v_1 hv_1 => ?_))
  obtain rfl := hv_1
  show X _ _ _ _ _ _ _ _ _ [zV (bI (0 ≤ z1 ∧ z1 < 4))] _
  refine x_if_neB (tgt := 9) ho d_MW_start_4 (by decide) (fun c_4 => ?_) (fun c_4 => ?_)
  ·
    refine x_aload_n ho 0 d_MW_start_9 rfl ?_
    refine x_get 0 ho d_MW_start_10 cl_MW (by decide) g_242 a_o rfl ?_
    refine x_get 1 ho d_MW_start_13 cl_ST (by decide) g_124 a_n rfl ?_
    refine x_callV (rest := []) ho d_MW_start_16 yv_LE_length g_323 g_324 g_428 (c_LE_length M.2.1 D (x + 1 + 13) 300 V.1.2.1 ) rfl rfl ⟨Nat.le_of_ble_eq_true rfl, Nat.le_of_ble_eq_true rfl⟩ ⟨Nat.le_of_ble_eq_true rfl, Nat.le_of_ble_eq_true rfl⟩ rfl rfl (Nat.le_of_ble_eq_true rfl) a_w.1 rfl rfl a_w fr_none' (x_rd (fun v_3 hv_3 => ?_))
    obtain rfl := hv_3
    show X _ _ _ _ _ _ _ _ _ [zV ((V.1.2.1.length : Int))] _
    refine x_istore_n (L' := [(2, zV ((V.1.2.1.length : Int))), (0, .ref x), (1, zV z1)]) ho d_MW_start_19 (by decide) rfl ?_
    refine x_aload_n ho 1 d_MW_start_20 rfl ?_
    refine x_get 6 ho d_MW_start_21 cl_MW (by decide) g_248 a_o rfl ?_
    refine x_callV (rest := []) ho d_MW_start_24 yv_LE_clear g_316 g_317 g_429 (c_LE_clear M.2.1 D (x + 119) 300 xW1 ) rfl rfl ⟨Nat.le_of_ble_eq_true rfl, Nat.le_of_ble_eq_true rfl⟩ ⟨Nat.le_of_ble_eq_true rfl, Nat.le_of_ble_eq_true rfl⟩ rfl rfl (Nat.le_of_ble_eq_true rfl) a_1.1 rfl rfl a_1 (rA_sub (by omega) (by omega)) (fun v_5 H_7 hv_5 f_6 => ?_)
    have k_8 := a_o.kept (f_6.2 _ a_o.lt (rA_no (by omega)))
    have k_9 := a_n.kept (f_6.2 _ a_n.lt (rA_no (by omega)))
    have k_10 := a_R.kept (fun q g1 g2 => f_6.2 q (by have := a_R.lt; omega) (rA_no (by omega)))
    have k_11 := a_w.kept (fun q g1 g2 => f_6.2 q (by have := a_w.lt; omega) (rA_no (by omega)))
    have k_12 := a_k.kept (fun q g1 g2 => f_6.2 q (by have := a_k.lt; omega) (rA_no (by omega)))
    have k_13 := a_s.kept (fun q g1 g2 => f_6.2 q (by have := a_s.lt; omega) (rA_no (by omega)))
    have k_14 := a_h.kept (fun q g1 g2 => f_6.2 q (by have := a_h.lt; omega) (rA_no (by omega)))
    have k_15 := a_t.kept (fun q g1 g2 => f_6.2 q (by have := a_t.lt; omega) (rA_no (by omega)))
    have k_16 := a_r.kept (fun q g1 g2 => f_6.2 q (by have := a_r.lt; omega) (rA_no (by omega)))
    have k_17 := a_2.kept (fun q g1 g2 => f_6.2 q (by have := a_2.lt; omega) (rA_no (by omega)))
    have k_18 := a_3.kept (fun q g1 g2 => f_6.2 q (by have := a_3.lt; omega) (rA_no (by omega)))
    have k_19 := a_P.kept (fun q g1 g2 => f_6.2 q (by have := a_P.lt; omega) (rA_no (by omega)))
    have k_20 := a_T.kept (fun q g1 g2 => f_6.2 q (by have := a_T.lt; omega) (rA_no (by omega)))
    have k_21 := a_G.kept (fun q g1 g2 => f_6.2 q (by have := a_G.lt; omega) (rA_no (by omega)))
    have k_22 := a_M.kept (fun q g1 g2 => f_6.2 q (by have := a_M.lt; omega) (rA_no (by omega)))
    have k_23 := a_Z.kept (fun q g1 g2 => f_6.2 q (by have := a_Z.lt; omega) (rA_no (by omega)))
    obtain ⟨rfl, hL_24⟩ := hv_5
    show X _ _ _ _ _ _ _ _ _ [] _
    refine x_aload_n ho 1 d_MW_start_27 rfl ?_
    refine x_get 6 ho d_MW_start_28 cl_MW (by decide) g_248 k_8 rfl ?_
    refine x_iload_n ho 2 d_MW_start_31 rfl ?_
    refine x_callV (rest := []) ho d_MW_start_32 yv_LE_add g_106 g_107 g_430 (c_LE_add M.2.1 D (x + 119) 300 ([]) z1 (by omega)) rfl rfl ⟨Nat.le_of_ble_eq_true rfl, Nat.le_of_ble_eq_true rfl⟩ ⟨Nat.le_of_ble_eq_true rfl, Nat.le_of_ble_eq_true rfl⟩ rfl rfl (Nat.le_of_ble_eq_true rfl) hL_24.1 rfl rfl hL_24 (rA_sub (by omega) (by omega)) (fun v_25 H_27 hv_25 f_26 => ?_)
    have k_28 := k_8.kept (f_26.2 _ k_8.lt (rA_no (by omega)))
    have k_29 := k_9.kept (f_26.2 _ k_9.lt (rA_no (by omega)))
    have k_30 := k_10.kept (fun q g1 g2 => f_26.2 q (by have := k_10.lt; omega) (rA_no (by omega)))
    have k_31 := k_11.kept (fun q g1 g2 => f_26.2 q (by have := k_11.lt; omega) (rA_no (by omega)))
    have k_32 := k_12.kept (fun q g1 g2 => f_26.2 q (by have := k_12.lt; omega) (rA_no (by omega)))
    have k_33 := k_13.kept (fun q g1 g2 => f_26.2 q (by have := k_13.lt; omega) (rA_no (by omega)))
    have k_34 := k_14.kept (fun q g1 g2 => f_26.2 q (by have := k_14.lt; omega) (rA_no (by omega)))
    have k_35 := k_15.kept (fun q g1 g2 => f_26.2 q (by have := k_15.lt; omega) (rA_no (by omega)))
    have k_36 := k_16.kept (fun q g1 g2 => f_26.2 q (by have := k_16.lt; omega) (rA_no (by omega)))
    have k_37 := k_17.kept (fun q g1 g2 => f_26.2 q (by have := k_17.lt; omega) (rA_no (by omega)))
    have k_38 := k_18.kept (fun q g1 g2 => f_26.2 q (by have := k_18.lt; omega) (rA_no (by omega)))
    have k_39 := k_19.kept (fun q g1 g2 => f_26.2 q (by have := k_19.lt; omega) (rA_no (by omega)))
    have k_40 := k_20.kept (fun q g1 g2 => f_26.2 q (by have := k_20.lt; omega) (rA_no (by omega)))
    have k_41 := k_21.kept (fun q g1 g2 => f_26.2 q (by have := k_21.lt; omega) (rA_no (by omega)))
    have k_42 := k_22.kept (fun q g1 g2 => f_26.2 q (by have := k_22.lt; omega) (rA_no (by omega)))
    have k_43 := k_23.kept (fun q g1 g2 => f_26.2 q (by have := k_23.lt; omega) (rA_no (by omega)))
    rcases hv_25 with ⟨rfl, hp_44, hL_45⟩ | ⟨rfl, hp_46, hL_47⟩
    ·
      show X _ _ _ _ _ _ _ _ _ [zV 1] _
      refine x_pop ho d_MW_start_35 rfl ?_
      refine x_aload_n ho 1 d_MW_start_36 rfl ?_
      refine x_callV (rest := []) ho d_MW_start_37 yv_MW_takeNextWord g_432 g_5 g_431 (c_MW_takeNextWord M.2.1 D x V.2.2.1 xpn V.1.1 V.1.2.1 V.1.2.2 V.2.1 V.2.2.2.1 (([]) ++ [z1]) ) rfl rfl ⟨Nat.le_of_ble_eq_true rfl, Nat.le_of_ble_eq_true rfl⟩ ⟨Nat.le_of_ble_eq_true rfl, Nat.le_of_ble_eq_true rfl⟩ rfl rfl (Nat.le_of_ble_eq_true rfl) k_28 rfl rfl ⟨k_28, k_29, k_30, k_31, k_32, k_33, k_34, hL_45⟩ (rA_sub (by omega) (by omega)) (fun v_48 H_50 hv_48 f_49 => ?_)
      have k_51 := k_35.kept (fun q g1 g2 => f_49.2 q (by have := k_35.lt; omega) (rA_no (by omega)))
      have k_52 := k_36.kept (fun q g1 g2 => f_49.2 q (by have := k_36.lt; omega) (rA_no (by omega)))
      have k_53 := k_37.kept (fun q g1 g2 => f_49.2 q (by have := k_37.lt; omega) (rA_no (by omega)))
      have k_54 := k_38.kept (fun q g1 g2 => f_49.2 q (by have := k_38.lt; omega) (rA_no (by omega)))
      have k_55 := k_39.kept (fun q g1 g2 => f_49.2 q (by have := k_39.lt; omega) (rA_no (by omega)))
      have k_56 := k_40.kept (fun q g1 g2 => f_49.2 q (by have := k_40.lt; omega) (rA_no (by omega)))
      have k_57 := k_41.kept (fun q g1 g2 => f_49.2 q (by have := k_41.lt; omega) (rA_no (by omega)))
      have k_58 := k_42.kept (fun q g1 g2 => f_49.2 q (by have := k_42.lt; omega) (rA_no (by omega)))
      have k_59 := k_43.kept (fun q g1 g2 => f_49.2 q (by have := k_43.lt; omega) (rA_no (by omega)))
      rcases hv_48 with ⟨rfl, hp_60, t_o_61, t_n_62, t_R_63, t_w_64, t_k_65, t_s_66, t_h_67, t_1_68⟩ | ⟨rfl, hp_69, t_o_70, t_n_71, t_R_72, t_w_73, t_k_74, t_s_75, t_h_76, t_1_77⟩
      ·
        show X _ _ _ _ _ _ _ _ _ [zV 0] _
        refine x_if_eq (tgt := 47) ho d_MW_start_40 (by decide) (by omega) (fun _ => ?_) (fun c => absurd c (by decide))
        refine x_bipush (z := (-5)) ho d_MW_start_47 (by decide) ?_
        refine x_iret ho hr d_MW_start_49 ?_
        have e : m_start z1 V = (-5, V) := by unfold m_start; rw [cif_t (c_4), cif_t (show [z1] = V.1.2.1 from hp_60)]
        exact ⟨by rw [e], by rw [e]; exact isW_mk t_o_61 t_n_62 t_R_63 t_w_64 t_k_65 t_s_66 t_h_67 k_51 k_52 t_1_68 k_53 k_54 k_55 k_56 k_57 k_58 k_59 a_g⟩
      ·
        show X _ _ _ _ _ _ _ _ _ [zV 1] _
        refine x_if_eq (tgt := 47) ho d_MW_start_40 (by decide) (by omega) (fun c => absurd c (by decide)) (fun _ => ?_)
        refine x_iload_n ho 0 d_MW_start_43 rfl ?_
        refine x_goto (tgt := 49) ho d_MW_start_44 (by decide) ?_
        refine x_iret ho hr d_MW_start_49 ?_
        have e : m_start z1 V = ((V.1.2.1.length : Int), act (V.1.1, [z1], V.1.2.2) V) := by unfold m_start; rw [cif_t (c_4), cif_f (show ¬ [z1] = V.1.2.1 from hp_69)]
        exact ⟨by rw [e], by rw [e]; exact isW_mk t_o_70 t_n_71 t_R_72 t_w_73 t_k_74 t_s_75 t_h_76 k_51 k_52 t_1_77 k_53 k_54 k_55 k_56 k_57 k_58 k_59 (gd_act a_g ⟨a_g.1.1, Int.le_refl 1⟩)⟩
    ·
      exact absurd ⟨c_4.1, c_4.2, by simp⟩ hp_46
  ·
    refine x_iconst ho d_MW_start_7 ?_
    refine x_iret ho hr d_MW_start_8 ?_
    have e : m_start z1 V = (-1, V) := by unfold m_start; rw [cif_f (c_4)]
    exact ⟨by rw [e], by rw [e]; exact isW_mk a_o a_n a_R a_w a_k a_s a_h a_t a_r a_1 a_2 a_3 a_P a_T a_G a_M a_Z a_g⟩
def q_MW_cut (D : GG) (x : Nat) (V : WV) (z1 : Int) : Option Value → Heap → Prop := fun v0 H => v0 = some (zV ((m_cut z1 V).1)) ∧ isW D H x ((m_cut z1 V).2)
theorem yv_MW_cut : Yv y_MW_cut b_MW_cut 3 (Option.some FieldType.int) 1 := ⟨g_444, g_53, by decide, by decide +kernel⟩
set_option maxHeartbeats 4000000 in
set_option maxRecDepth 100000 in
theorem c_MW_cut (l0 : Launch) (D : GG) (x : Nat) (V : WV) (z1 : Int) (hz1 : -2147483648 ≤ z1 ∧ z1 ≤ 2147483647) : Ct l0 D y_MW_cut b_MW_cut 3 (Option.some FieldType.int) ({ frames := 6, cells := 0, slots := 0, locals := 166 } : Room) [.ref x, zV z1] (fun H => isW D H x V) (rA x (x + 137)) 0 0 (q_MW_cut D x V z1) := by
  refine Ct.of (L := [(0, .ref x), (1, zV z1)]) (by decide) (Nat.le_of_ble_eq_true rfl) rfl (fun M H ho hr hnm hH hpre => ?_)
  have hW := hpre
  obtain ⟨xpn, xp, xc, xW1, xW2, xW3, xt, xu, xfd, xg, xe1, xe2, xe3, xm1, xm2, xos, xN, xF, a_o, a_n, a_R, a_w, a_k, a_s, a_h, a_t, a_r, a_1, a_2, a_3, a_P, a_T, a_G, a_M, a_Z, a_g⟩ := id hW
  have w_b := a_w.b
  have w_w := a_w.w
  have k_b := a_k.b
  have t_b := a_t.b
  have h_b := a_h.b
  have g_1 := a_g.1.2
  have c_w := a_R.wc
  refine x_aload_n ho 0 d_MW_cut_0 rfl ?_
  refine x_get 0 ho d_MW_cut_1 cl_MW (by decide) g_242 a_o rfl ?_
  refine x_get 1 ho d_MW_cut_4 cl_ST (by decide) g_124 a_n rfl ?_
  refine x_callV (rest := []) ho d_MW_cut_7 yv_LE_length g_323 g_324 g_428 (c_LE_length M.2.1 D (x + 1 + 13) 300 V.1.2.1 ) rfl rfl ⟨Nat.le_of_ble_eq_true rfl, Nat.le_of_ble_eq_true rfl⟩ ⟨Nat.le_of_ble_eq_true rfl, Nat.le_of_ble_eq_true rfl⟩ rfl rfl (Nat.le_of_ble_eq_true rfl) a_w.1 rfl rfl a_w fr_none' (x_rd (fun v_1 hv_1 => ?_))
  obtain rfl := hv_1
  show X _ _ _ _ _ _ _ _ _ [zV ((V.1.2.1.length : Int))] _
  refine x_istore_n (L' := [(2, zV ((V.1.2.1.length : Int))), (0, .ref x), (1, zV z1)]) ho d_MW_cut_10 (by decide) rfl ?_
  refine x_iload_n ho 2 d_MW_cut_11 rfl ?_
  refine x_iconst ho d_MW_cut_12 ?_
  refine x_icmp_lt (tgt := 21) ho d_MW_cut_13 (by decide) (by omega) (by omega) (fun c_13 => ?_) (fun c_13 => ?_)
  ·
    refine x_bipush (z := (-2)) ho d_MW_cut_21 (by decide) ?_
    refine x_iret ho hr d_MW_cut_23 ?_
    have e : m_cut z1 V = (-2, V) := by unfold m_cut; rw [cif_f (by omega)]
    exact ⟨by rw [e], by rw [e]; exact isW_mk a_o a_n a_R a_w a_k a_s a_h a_t a_r a_1 a_2 a_3 a_P a_T a_G a_M a_Z a_g⟩
  ·
    refine x_iload_n ho 2 d_MW_cut_16 rfl ?_
    refine x_iload_n ho 0 d_MW_cut_17 rfl ?_
    refine x_icmp_le (tgt := 24) ho d_MW_cut_18 (by decide) (by omega) (by omega) (fun c_18 => ?_) (fun c_18 => ?_)
    ·
      refine x_aload_n ho 1 d_MW_cut_24 rfl ?_
      refine x_get 6 ho d_MW_cut_25 cl_MW (by decide) g_248 a_o rfl ?_
      refine x_aload_n ho 1 d_MW_cut_28 rfl ?_
      refine x_get 0 ho d_MW_cut_29 cl_MW (by decide) g_242 a_o rfl ?_
      refine x_get 1 ho d_MW_cut_32 cl_ST (by decide) g_124 a_n rfl ?_
      refine x_callV (rest := []) ho d_MW_cut_35 yv_LE_become g_298 g_299 g_435 (c_LE_become M.2.1 D (x + 119) 300 xW1 (x + 1 + 13) 300 V.1.2.1 (by omega) (by omega)) rfl rfl ⟨Nat.le_of_ble_eq_true rfl, Nat.le_of_ble_eq_true rfl⟩ ⟨Nat.le_of_ble_eq_true rfl, Nat.le_of_ble_eq_true rfl⟩ rfl rfl (Nat.le_of_ble_eq_true rfl) a_1.1 rfl rfl ⟨a_1, a_w⟩ (rA_sub (by omega) (by omega)) (fun v_3 H_5 hv_3 f_4 => ?_)
      have k_6 := a_o.kept (f_4.2 _ a_o.lt (rA_no (by omega)))
      have k_7 := a_n.kept (f_4.2 _ a_n.lt (rA_no (by omega)))
      have k_8 := a_R.kept (fun q g1 g2 => f_4.2 q (by have := a_R.lt; omega) (rA_no (by omega)))
      have k_9 := a_k.kept (fun q g1 g2 => f_4.2 q (by have := a_k.lt; omega) (rA_no (by omega)))
      have k_10 := a_s.kept (fun q g1 g2 => f_4.2 q (by have := a_s.lt; omega) (rA_no (by omega)))
      have k_11 := a_h.kept (fun q g1 g2 => f_4.2 q (by have := a_h.lt; omega) (rA_no (by omega)))
      have k_12 := a_t.kept (fun q g1 g2 => f_4.2 q (by have := a_t.lt; omega) (rA_no (by omega)))
      have k_13 := a_r.kept (fun q g1 g2 => f_4.2 q (by have := a_r.lt; omega) (rA_no (by omega)))
      have k_14 := a_2.kept (fun q g1 g2 => f_4.2 q (by have := a_2.lt; omega) (rA_no (by omega)))
      have k_15 := a_3.kept (fun q g1 g2 => f_4.2 q (by have := a_3.lt; omega) (rA_no (by omega)))
      have k_16 := a_P.kept (fun q g1 g2 => f_4.2 q (by have := a_P.lt; omega) (rA_no (by omega)))
      have k_17 := a_T.kept (fun q g1 g2 => f_4.2 q (by have := a_T.lt; omega) (rA_no (by omega)))
      have k_18 := a_G.kept (fun q g1 g2 => f_4.2 q (by have := a_G.lt; omega) (rA_no (by omega)))
      have k_19 := a_M.kept (fun q g1 g2 => f_4.2 q (by have := a_M.lt; omega) (rA_no (by omega)))
      have k_20 := a_Z.kept (fun q g1 g2 => f_4.2 q (by have := a_Z.lt; omega) (rA_no (by omega)))
      obtain ⟨rfl, hL_21, hK_22⟩ := hv_3
      show X _ _ _ _ _ _ _ _ _ [] _
      refine x_aload_n ho 1 d_MW_cut_38 rfl ?_
      refine x_get 6 ho d_MW_cut_39 cl_MW (by decide) g_248 k_6 rfl ?_
      refine x_iload_n ho 2 d_MW_cut_42 rfl ?_
      refine x_callV (rest := []) ho d_MW_cut_43 yv_LE_shorten g_446 g_447 g_445 (c_LE_shorten M.2.1 D (x + 119) 300 V.1.2.1 z1 (by omega) (by omega)) rfl rfl ⟨Nat.le_of_ble_eq_true rfl, Nat.le_of_ble_eq_true rfl⟩ ⟨Nat.le_of_ble_eq_true rfl, Nat.le_of_ble_eq_true rfl⟩ rfl rfl (Nat.le_of_ble_eq_true rfl) hL_21.1 rfl rfl hL_21 (rA_sub (by omega) (by omega)) (fun v_23 H_25 hv_23 f_24 => ?_)
      have k_26 := k_6.kept (f_24.2 _ k_6.lt (rA_no (by omega)))
      have k_27 := k_7.kept (f_24.2 _ k_7.lt (rA_no (by omega)))
      have k_28 := k_8.kept (fun q g1 g2 => f_24.2 q (by have := k_8.lt; omega) (rA_no (by omega)))
      have k_29 := k_9.kept (fun q g1 g2 => f_24.2 q (by have := k_9.lt; omega) (rA_no (by omega)))
      have k_30 := k_10.kept (fun q g1 g2 => f_24.2 q (by have := k_10.lt; omega) (rA_no (by omega)))
      have k_31 := k_11.kept (fun q g1 g2 => f_24.2 q (by have := k_11.lt; omega) (rA_no (by omega)))
      have k_32 := k_12.kept (fun q g1 g2 => f_24.2 q (by have := k_12.lt; omega) (rA_no (by omega)))
      have k_33 := k_13.kept (fun q g1 g2 => f_24.2 q (by have := k_13.lt; omega) (rA_no (by omega)))
      have k_34 := k_14.kept (fun q g1 g2 => f_24.2 q (by have := k_14.lt; omega) (rA_no (by omega)))
      have k_35 := k_15.kept (fun q g1 g2 => f_24.2 q (by have := k_15.lt; omega) (rA_no (by omega)))
      have k_36 := k_16.kept (fun q g1 g2 => f_24.2 q (by have := k_16.lt; omega) (rA_no (by omega)))
      have k_37 := k_17.kept (fun q g1 g2 => f_24.2 q (by have := k_17.lt; omega) (rA_no (by omega)))
      have k_38 := k_18.kept (fun q g1 g2 => f_24.2 q (by have := k_18.lt; omega) (rA_no (by omega)))
      have k_39 := k_19.kept (fun q g1 g2 => f_24.2 q (by have := k_19.lt; omega) (rA_no (by omega)))
      have k_40 := k_20.kept (fun q g1 g2 => f_24.2 q (by have := k_20.lt; omega) (rA_no (by omega)))
      have k_41 := hK_22.kept (fun q g1 g2 => f_24.2 q (by have := hK_22.lt; omega) (rA_no (by omega)))
      obtain ⟨rfl, hL_42⟩ := hv_23
      show X _ _ _ _ _ _ _ _ _ [] _
      refine x_aload_n ho 1 d_MW_cut_46 rfl ?_
      refine x_callV (rest := []) ho d_MW_cut_47 yv_MW_takeNextWord g_432 g_5 g_431 (c_MW_takeNextWord M.2.1 D x V.2.2.1 xpn V.1.1 V.1.2.1 V.1.2.2 V.2.1 V.2.2.2.1 (tk V.1.2.1 z1) ) rfl rfl ⟨Nat.le_of_ble_eq_true rfl, Nat.le_of_ble_eq_true rfl⟩ ⟨Nat.le_of_ble_eq_true rfl, Nat.le_of_ble_eq_true rfl⟩ rfl rfl (Nat.le_of_ble_eq_true rfl) k_26 rfl rfl ⟨k_26, k_27, k_28, k_41, k_29, k_30, k_31, hL_42⟩ (rA_sub (by omega) (by omega)) (fun v_43 H_45 hv_43 f_44 => ?_)
      have k_46 := k_32.kept (fun q g1 g2 => f_44.2 q (by have := k_32.lt; omega) (rA_no (by omega)))
      have k_47 := k_33.kept (fun q g1 g2 => f_44.2 q (by have := k_33.lt; omega) (rA_no (by omega)))
      have k_48 := k_34.kept (fun q g1 g2 => f_44.2 q (by have := k_34.lt; omega) (rA_no (by omega)))
      have k_49 := k_35.kept (fun q g1 g2 => f_44.2 q (by have := k_35.lt; omega) (rA_no (by omega)))
      have k_50 := k_36.kept (fun q g1 g2 => f_44.2 q (by have := k_36.lt; omega) (rA_no (by omega)))
      have k_51 := k_37.kept (fun q g1 g2 => f_44.2 q (by have := k_37.lt; omega) (rA_no (by omega)))
      have k_52 := k_38.kept (fun q g1 g2 => f_44.2 q (by have := k_38.lt; omega) (rA_no (by omega)))
      have k_53 := k_39.kept (fun q g1 g2 => f_44.2 q (by have := k_39.lt; omega) (rA_no (by omega)))
      have k_54 := k_40.kept (fun q g1 g2 => f_44.2 q (by have := k_40.lt; omega) (rA_no (by omega)))
      rcases hv_43 with ⟨rfl, hp_55, t_o_56, t_n_57, t_R_58, t_w_59, t_k_60, t_s_61, t_h_62, t_1_63⟩ | ⟨rfl, hp_64, t_o_65, t_n_66, t_R_67, t_w_68, t_k_69, t_s_70, t_h_71, t_1_72⟩
      ·
        show X _ _ _ _ _ _ _ _ _ [zV 0] _
        refine x_if_eq (tgt := 59) ho d_MW_cut_50 (by decide) (by omega) (fun _ => ?_) (fun c => absurd c (by decide))
        refine x_bipush (z := (-5)) ho d_MW_cut_59 (by decide) ?_
        refine x_iret ho hr d_MW_cut_61 ?_
        have e : m_cut z1 V = (-5, V) := by unfold m_cut; rw [cif_t (by omega), cif_t (hp_55)]
        exact ⟨by rw [e], by rw [e]; exact isW_mk t_o_56 t_n_57 t_R_58 t_w_59 t_k_60 t_s_61 t_h_62 k_46 k_47 t_1_63 k_48 k_49 k_50 k_51 k_52 k_53 k_54 a_g⟩
      ·
        show X _ _ _ _ _ _ _ _ _ [zV 1] _
        refine x_if_eq (tgt := 59) ho d_MW_cut_50 (by decide) (by omega) (fun c => absurd c (by decide)) (fun _ => ?_)
        refine x_iload_n ho 0 d_MW_cut_53 rfl ?_
        refine x_iload_n ho 2 d_MW_cut_54 rfl ?_
        refine x_isub ho d_MW_cut_55 ?_
        refine x_goto (tgt := 61) ho d_MW_cut_56 (by decide) ?_
        refine x_iret ho hr d_MW_cut_61 ?_
        have e : m_cut z1 V = ((V.1.2.1.length : Int) - z1, act (V.1.1, tk V.1.2.1 z1, V.1.2.2) V) := by unfold m_cut; rw [cif_t (by omega), cif_f (hp_64)]
        exact ⟨by rw [e], by rw [e]; exact isW_mk t_o_65 t_n_66 t_R_67 t_w_68 t_k_69 t_s_70 t_h_71 k_46 k_47 t_1_72 k_48 k_49 k_50 k_51 k_52 k_53 k_54 (gd_act a_g ⟨a_g.1.1, by show 1 ≤ ((tk V.1.2.1 z1).length : Int); rw [tk_len (by omega) (by omega)]; omega⟩)⟩
    ·
      refine x_bipush (z := (-2)) ho d_MW_cut_21 (by decide) ?_
      refine x_iret ho hr d_MW_cut_23 ?_
      have e : m_cut z1 V = (-2, V) := by unfold m_cut; rw [cif_f (by omega)]
      exact ⟨by rw [e], by rw [e]; exact isW_mk a_o a_n a_R a_w a_k a_s a_h a_t a_r a_1 a_2 a_3 a_P a_T a_G a_M a_Z a_g⟩
