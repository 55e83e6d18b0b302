def q_MW_grow (D : GG) (x : Nat) (V : WV) (z1 : Int) : Option Value → Heap → Prop := fun v0 H => v0 = some (zV ((m_grow z1 V).1)) ∧ isW D H x ((m_grow z1 V).2)
theorem yv_MW_grow : Yv y_MW_grow b_MW_grow 3 (Option.some FieldType.int) 1 := ⟨g_439, g_53, by decide, by decide +kernel⟩
set_option maxHeartbeats 4000000 in
set_option maxRecDepth 100000 in
theorem c_MW_grow (l0 : Launch) (D : GG) (x : Nat) (V : WV) (z1 : Int) (hz1 : -2147483648 ≤ z1 ∧ z1 ≤ 2147483647) : Ct l0 D y_MW_grow b_MW_grow 3 (Option.some FieldType.int) ({ frames := 6, cells := 0, slots := 0, locals := 166 } : Room) [.ref x, zV z1] (fun H => isW D H x V) (rA x (x + 137)) 0 0 (q_MW_grow D x V z1) := by
  refine Ct.of (L := [(0, .ref x), (1, zV z1)]) (by decide) (Nat.le_of_ble_eq_true rfl) rfl (fun M H ho hr hnm hH hpre => ?_)
  have hW := hpre
  obtain ⟨xpn, xp, xc, xW1, xW2, xW3, xt, xu, xfd, xg, xe1, xe2, xe3, xm1, xm2, xos, xN, xF, a_o, a_n, a_R, a_w, a_k, a_s, a_h, a_t, a_r, a_1, a_2, a_3, a_P, a_T, a_G, a_M, a_Z, a_g⟩ := id hW
  have w_b := a_w.b
  have w_w := a_w.w
  have k_b := a_k.b
  have t_b := a_t.b
  have h_b := a_h.b
  have g_1 := a_g.1.2
  have c_w := a_R.wc
  refine x_iload_n ho 1 d_MW_grow_0 rfl ?_
  refine x_iconst ho d_MW_grow_1 ?_
  refine x_icmp_lt (tgt := 11) ho d_MW_grow_2 (by decide) (by omega) (by omega) (fun c_2 => ?_) (fun c_2 => ?_)
  ·
    refine x_bipush (z := (-2)) ho d_MW_grow_11 (by decide) ?_
    refine x_iret ho hr d_MW_grow_13 ?_
    have e : m_grow z1 V = (-2, V) := by unfold m_grow; rw [cif_f (by omega)]
    exact ⟨by rw [e], by rw [e]; exact isW_mk a_o a_n a_R a_w a_k a_s a_h a_t a_r a_1 a_2 a_3 a_P a_T a_G a_M a_Z a_g⟩
  ·
    refine x_iload_n ho 1 d_MW_grow_5 rfl ?_
    refine x_bipush (z := 20) ho d_MW_grow_6 (by decide) ?_
    refine x_icmp_le (tgt := 14) ho d_MW_grow_8 (by decide) (by omega) (by omega) (fun c_8 => ?_) (fun c_8 => ?_)
    ·
      refine x_aload_n ho 0 d_MW_grow_14 rfl ?_
      refine x_get 6 ho d_MW_grow_15 cl_MW (by decide) g_248 a_o rfl ?_
      refine x_aload_n ho 0 d_MW_grow_18 rfl ?_
      refine x_get 0 ho d_MW_grow_19 cl_MW (by decide) g_242 a_o rfl ?_
      refine x_get 1 ho d_MW_grow_22 cl_ST (by decide) g_124 a_n rfl ?_
      refine x_callV (rest := []) ho d_MW_grow_25 yv_LE_become g_298 g_299 g_435 (c_LE_become M.2.1 D (x + 119) 300 xW1 (x + 1 + 13) 300 V.1.2.1 (by omega) (by omega)) rfl rfl ⟨Nat.le_of_ble_eq_true rfl, Nat.le_of_ble_eq_true rfl⟩ ⟨Nat.le_of_ble_eq_true rfl, Nat.le_of_ble_eq_true rfl⟩ rfl rfl (Nat.le_of_ble_eq_true rfl) a_1.1 rfl rfl ⟨a_1, a_w⟩ (rA_sub (by omega) (by omega)) (fun v_1 H_3 hv_1 f_2 => ?_)
      have k_4 := a_o.kept (f_2.2 _ a_o.lt (rA_no (by omega)))
      have k_5 := a_n.kept (f_2.2 _ a_n.lt (rA_no (by omega)))
      have k_6 := a_R.kept (fun q g1 g2 => f_2.2 q (by have := a_R.lt; omega) (rA_no (by omega)))
      have k_7 := a_k.kept (fun q g1 g2 => f_2.2 q (by have := a_k.lt; omega) (rA_no (by omega)))
      have k_8 := a_s.kept (fun q g1 g2 => f_2.2 q (by have := a_s.lt; omega) (rA_no (by omega)))
      have k_9 := a_h.kept (fun q g1 g2 => f_2.2 q (by have := a_h.lt; omega) (rA_no (by omega)))
      have k_10 := a_t.kept (fun q g1 g2 => f_2.2 q (by have := a_t.lt; omega) (rA_no (by omega)))
      have k_11 := a_r.kept (fun q g1 g2 => f_2.2 q (by have := a_r.lt; omega) (rA_no (by omega)))
      have k_12 := a_2.kept (fun q g1 g2 => f_2.2 q (by have := a_2.lt; omega) (rA_no (by omega)))
      have k_13 := a_3.kept (fun q g1 g2 => f_2.2 q (by have := a_3.lt; omega) (rA_no (by omega)))
      have k_14 := a_P.kept (fun q g1 g2 => f_2.2 q (by have := a_P.lt; omega) (rA_no (by omega)))
      have k_15 := a_T.kept (fun q g1 g2 => f_2.2 q (by have := a_T.lt; omega) (rA_no (by omega)))
      have k_16 := a_G.kept (fun q g1 g2 => f_2.2 q (by have := a_G.lt; omega) (rA_no (by omega)))
      have k_17 := a_M.kept (fun q g1 g2 => f_2.2 q (by have := a_M.lt; omega) (rA_no (by omega)))
      have k_18 := a_Z.kept (fun q g1 g2 => f_2.2 q (by have := a_Z.lt; omega) (rA_no (by omega)))
      obtain ⟨rfl, hL_19, hK_20⟩ := hv_1
      show X _ _ _ _ _ _ _ _ _ [] _
      refine x_iconst ho d_MW_grow_28 ?_
      refine x_istore_n (L' := [(2, zV 0), (0, .ref x), (1, zV z1)]) ho d_MW_grow_29 (by decide) rfl ?_
      have loop_30 : ∀ (kk : Nat) (i : Int) (Y : List Int) (H_21 : Heap) (l_o : At D H_21 x (oO 10 [.ref (x + 1), .ref (x + 18), zV V.2.2.1, .ref (x + 35), .ref (x + 105), .ref (x + 107), .ref (x + 119), .ref (x + 121), .ref (x + 123), .ref (x + 125), .ref (x + 128), .ref (x + 130), .ref (x + 131), .ref (x + 132)])) (l_n : At D H_21 (x + 1) (oO 8 [.ref (x + 1 + 1), .ref (x + 1 + 13), .ref (x + 1 + 15)])) (l_R : isR D H_21 (x + 1 + 1) xpn V.1.1) (l_w : isL D H_21 (x + 1 + 13) 300 V.1.2.1) (l_k : isL D H_21 (x + 1 + 15) 20 V.1.2.2) (l_s : isS D H_21 (x + 18) V.2.1) (l_h : isHL D H_21 (x + 35) V.2.2.2.1) (l_t : isT D H_21 (x + 105) V.2.2.2.2) (l_r : isR D H_21 (x + 107) xp xc) (l_1 : isL D H_21 (x + 119) 300 (gwN V.1.1 V.1.2.1 i.toNat)) (l_2 : isL D H_21 (x + 121) 300 Y) (l_3 : isL D H_21 (x + 123) 20 xW3) (l_P : isP D H_21 (x + 125) xt xu) (l_T : isPT D H_21 (x + 128) xfd xg) (l_G : isG D H_21 (x + 130) xe1 xe2 xe3) (l_M : isM D H_21 (x + 131) xm1 xm2) (l_Z : isRT D H_21 (x + 132) xos xN xF) (i0 : 0 ≤ i ∧ i ≤ z1), (z1 - i).toNat < kk → X M ({ frames := 6, cells := 0, slots := 0, locals := 166 } : Room) 3 (rA x (x + 137)) 0 0 (Qof M (rA x (x + 137)) (q_MW_grow D x V z1) 0 0) 30 [(2, zV i), (0, .ref x), (1, zV z1)] [] H_21 := by
        intro kk
        induction kk with
        | zero => intro i Y H_21 l_o l_n l_R l_w l_k l_s l_h l_t l_r l_1 l_2 l_3 l_P l_T l_G l_M l_Z i0 hk; exact absurd hk (Nat.not_lt_zero _)
        | succ kk ih_30 =>
          intro i Y H_21 l_o l_n l_R l_w l_k l_s l_h l_t l_r l_1 l_2 l_3 l_P l_T l_G l_M l_Z i0 hk_30
          refine x_iload_n ho 0 d_MW_grow_30 rfl ?_
          refine x_iload_n ho 2 d_MW_grow_31 rfl ?_
          refine x_icmp_ge (tgt := 78) ho d_MW_grow_32 (by decide) (by omega) (by omega) (fun c_32 => ?_) (fun c_32 => ?_)
          ·
            rw [show i.toNat = z1.toNat by omega] at l_1
            have hgw := gwN_1 a_g.1.1 c_w w_w g_1 z1.toNat
            refine x_aload_n ho 1 d_MW_grow_78 rfl ?_
            refine x_callV (rest := []) ho d_MW_grow_79 yv_MW_takeNextWord g_432 g_5 g_431 (c_MW_takeNextWord M.2.1 D x V.2.2.1 xpn V.1.1 V.1.2.1 V.1.2.2 V.2.1 V.2.2.2.1 (gwN V.1.1 V.1.2.1 z1.toNat) ) rfl rfl ⟨Nat.le_of_ble_eq_true rfl, Nat.le_of_ble_eq_true rfl⟩ ⟨Nat.le_of_ble_eq_true rfl, Nat.le_of_ble_eq_true rfl⟩ rfl rfl (Nat.le_of_ble_eq_true rfl) l_o rfl rfl ⟨l_o, l_n, l_R, l_w, l_k, l_s, l_h, l_1⟩ (rA_sub (by omega) (by omega)) (fun v_22 H_24 hv_22 f_23 => ?_)
            have k_25 := l_t.kept (fun q g1 g2 => f_23.2 q (by have := l_t.lt; omega) (rA_no (by omega)))
            have k_26 := l_r.kept (fun q g1 g2 => f_23.2 q (by have := l_r.lt; omega) (rA_no (by omega)))
            have k_27 := l_2.kept (fun q g1 g2 => f_23.2 q (by have := l_2.lt; omega) (rA_no (by omega)))
            have k_28 := l_3.kept (fun q g1 g2 => f_23.2 q (by have := l_3.lt; omega) (rA_no (by omega)))
            have k_29 := l_P.kept (fun q g1 g2 => f_23.2 q (by have := l_P.lt; omega) (rA_no (by omega)))
            have k_30 := l_T.kept (fun q g1 g2 => f_23.2 q (by have := l_T.lt; omega) (rA_no (by omega)))
            have k_31 := l_G.kept (fun q g1 g2 => f_23.2 q (by have := l_G.lt; omega) (rA_no (by omega)))
            have k_32 := l_M.kept (fun q g1 g2 => f_23.2 q (by have := l_M.lt; omega) (rA_no (by omega)))
            have k_33 := l_Z.kept (fun q g1 g2 => f_23.2 q (by have := l_Z.lt; omega) (rA_no (by omega)))
            rcases hv_22 with ⟨rfl, hp_34, t_o_35, t_n_36, t_R_37, t_w_38, t_k_39, t_s_40, t_h_41, t_1_42⟩ | ⟨rfl, hp_43, t_o_44, t_n_45, t_R_46, t_w_47, t_k_48, t_s_49, t_h_50, t_1_51⟩
            ·
              show X _ _ _ _ _ _ _ _ _ [zV 0] _
              refine x_if_eq (tgt := 98) ho d_MW_grow_82 (by decide) (by omega) (fun _ => ?_) (fun c => absurd c (by decide))
              refine x_bipush (z := (-5)) ho d_MW_grow_98 (by decide) ?_
              refine x_iret ho hr d_MW_grow_100 ?_
              have e : m_grow z1 V = (-5, V) := by unfold m_grow; rw [cif_t (by omega), cif_t (hp_34)]
              exact ⟨by rw [e], by rw [e]; exact isW_mk t_o_35 t_n_36 t_R_37 t_w_38 t_k_39 t_s_40 t_h_41 k_25 k_26 t_1_42 k_27 k_28 k_29 k_30 k_31 k_32 k_33 a_g⟩
            ·
              show X _ _ _ _ _ _ _ _ _ [zV 1] _
              refine x_if_eq (tgt := 98) ho d_MW_grow_82 (by decide) (by omega) (fun c => absurd c (by decide)) (fun _ => ?_)
              refine x_aload_n ho 1 d_MW_grow_85 rfl ?_
              refine x_get 0 ho d_MW_grow_86 cl_MW (by decide) g_242 t_o_44 rfl ?_
              refine x_get 1 ho d_MW_grow_89 cl_ST (by decide) g_124 t_n_45 rfl ?_
              have hb4 := (t_w_47).b
              refine x_callV (rest := []) ho d_MW_grow_92 yv_LE_length g_323 g_324 g_428 (c_LE_length M.2.1 D (x + 1 + 13) 300 (gwN V.1.1 V.1.2.1 z1.toNat) ) rfl rfl ⟨Nat.le_of_ble_eq_true rfl, Nat.le_of_ble_eq_true rfl⟩ ⟨Nat.le_of_ble_eq_true rfl, Nat.le_of_ble_eq_true rfl⟩ rfl rfl (Nat.le_of_ble_eq_true rfl) t_w_47.1 rfl rfl t_w_47 fr_none' (x_rd (fun v_52 hv_52 => ?_))
              obtain rfl := hv_52
              show X _ _ _ _ _ _ _ _ _ [zV (((gwN V.1.1 V.1.2.1 z1.toNat).length : Int))] _
              refine x_goto (tgt := 100) ho d_MW_grow_95 (by decide) ?_
              refine x_iret ho hr d_MW_grow_100 ?_
              have e : m_grow z1 V = (((gwN V.1.1 V.1.2.1 z1.toNat).length : Int), act (V.1.1, gwN V.1.1 V.1.2.1 z1.toNat, V.1.2.2) V) := by unfold m_grow; rw [cif_t (by omega), cif_f (hp_43)]
              exact ⟨by rw [e], by rw [e]; exact isW_mk t_o_44 t_n_45 t_R_46 t_w_47 t_k_48 t_s_49 t_h_50 k_25 k_26 t_1_51 k_27 k_28 k_29 k_30 k_31 k_32 k_33 (gd_act a_g ⟨a_g.1.1, hgw.1⟩)⟩
          ·
            refine x_aload_n ho 1 d_MW_grow_35 rfl ?_
            refine x_get 7 ho d_MW_grow_36 cl_MW (by decide) g_249 l_o rfl ?_
            refine x_callV (rest := []) ho d_MW_grow_39 yv_LE_clear g_316 g_317 g_429 (c_LE_clear M.2.1 D (x + 121) 300 Y ) rfl rfl ⟨Nat.le_of_ble_eq_true rfl, Nat.le_of_ble_eq_true rfl⟩ ⟨Nat.le_of_ble_eq_true rfl, Nat.le_of_ble_eq_true rfl⟩ rfl rfl (Nat.le_of_ble_eq_true rfl) l_2.1 rfl rfl l_2 (rA_sub (by omega) (by omega)) (fun v_54 H_56 hv_54 f_55 => ?_)
            have k_57 := l_o.kept (f_55.2 _ l_o.lt (rA_no (by omega)))
            have k_58 := l_n.kept (f_55.2 _ l_n.lt (rA_no (by omega)))
            have k_59 := l_R.kept (fun q g1 g2 => f_55.2 q (by have := l_R.lt; omega) (rA_no (by omega)))
            have k_60 := l_w.kept (fun q g1 g2 => f_55.2 q (by have := l_w.lt; omega) (rA_no (by omega)))
            have k_61 := l_k.kept (fun q g1 g2 => f_55.2 q (by have := l_k.lt; omega) (rA_no (by omega)))
            have k_62 := l_s.kept (fun q g1 g2 => f_55.2 q (by have := l_s.lt; omega) (rA_no (by omega)))
            have k_63 := l_h.kept (fun q g1 g2 => f_55.2 q (by have := l_h.lt; omega) (rA_no (by omega)))
            have k_64 := l_t.kept (fun q g1 g2 => f_55.2 q (by have := l_t.lt; omega) (rA_no (by omega)))
            have k_65 := l_r.kept (fun q g1 g2 => f_55.2 q (by have := l_r.lt; omega) (rA_no (by omega)))
            have k_66 := l_1.kept (fun q g1 g2 => f_55.2 q (by have := l_1.lt; omega) (rA_no (by omega)))
            have k_67 := l_3.kept (fun q g1 g2 => f_55.2 q (by have := l_3.lt; omega) (rA_no (by omega)))
            have k_68 := l_P.kept (fun q g1 g2 => f_55.2 q (by have := l_P.lt; omega) (rA_no (by omega)))
            have k_69 := l_T.kept (fun q g1 g2 => f_55.2 q (by have := l_T.lt; omega) (rA_no (by omega)))
            have k_70 := l_G.kept (fun q g1 g2 => f_55.2 q (by have := l_G.lt; omega) (rA_no (by omega)))
            have k_71 := l_M.kept (fun q g1 g2 => f_55.2 q (by have := l_M.lt; omega) (rA_no (by omega)))
            have k_72 := l_Z.kept (fun q g1 g2 => f_55.2 q (by have := l_Z.lt; omega) (rA_no (by omega)))
            obtain ⟨rfl, hL_73⟩ := hv_54
            show X _ _ _ _ _ _ _ _ _ [] _
            refine x_aload_n ho 1 d_MW_grow_42 rfl ?_
            refine x_get 0 ho d_MW_grow_43 cl_MW (by decide) g_242 k_57 rfl ?_
            refine x_get 0 ho d_MW_grow_46 cl_ST (by decide) g_122 k_58 rfl ?_
            refine x_aload_n ho 1 d_MW_grow_49 rfl ?_
            refine x_get 6 ho d_MW_grow_50 cl_MW (by decide) g_248 k_57 rfl ?_
            refine x_aload_n ho 1 d_MW_grow_53 rfl ?_
            refine x_get 7 ho d_MW_grow_54 cl_MW (by decide) g_249 k_57 rfl ?_
            refine x_callV (rest := []) ho d_MW_grow_57 yv_RU_addImage g_373 g_374 g_440 (c_RU_addImage M.2.1 D (x + 1 + 1) xpn V.1.1 (x + 119) 300 (gwN V.1.1 V.1.2.1 i.toNat) (x + 121) 300 ([]) (by omega) (by omega)) rfl rfl ⟨Nat.le_of_ble_eq_true rfl, Nat.le_of_ble_eq_true rfl⟩ ⟨Nat.le_of_ble_eq_true rfl, Nat.le_of_ble_eq_true rfl⟩ rfl rfl (Nat.le_of_ble_eq_true rfl) k_59.1 rfl rfl ⟨k_59, k_66, hL_73⟩ (rA_sub (by omega) (by omega)) (fun v_74 H_76 hv_74 f_75 => ?_)
            have k_77 := k_57.kept (f_75.2 _ k_57.lt (rA_no (by omega)))
            have k_78 := k_58.kept (f_75.2 _ k_58.lt (rA_no (by omega)))
            have k_79 := k_60.kept (fun q g1 g2 => f_75.2 q (by have := k_60.lt; omega) (rA_no (by omega)))
            have k_80 := k_61.kept (fun q g1 g2 => f_75.2 q (by have := k_61.lt; omega) (rA_no (by omega)))
            have k_81 := k_62.kept (fun q g1 g2 => f_75.2 q (by have := k_62.lt; omega) (rA_no (by omega)))
            have k_82 := k_63.kept (fun q g1 g2 => f_75.2 q (by have := k_63.lt; omega) (rA_no (by omega)))
            have k_83 := k_64.kept (fun q g1 g2 => f_75.2 q (by have := k_64.lt; omega) (rA_no (by omega)))
            have k_84 := k_65.kept (fun q g1 g2 => f_75.2 q (by have := k_65.lt; omega) (rA_no (by omega)))
            have k_85 := k_67.kept (fun q g1 g2 => f_75.2 q (by have := k_67.lt; omega) (rA_no (by omega)))
            have k_86 := k_68.kept (fun q g1 g2 => f_75.2 q (by have := k_68.lt; omega) (rA_no (by omega)))
            have k_87 := k_69.kept (fun q g1 g2 => f_75.2 q (by have := k_69.lt; omega) (rA_no (by omega)))
            have k_88 := k_70.kept (fun q g1 g2 => f_75.2 q (by have := k_70.lt; omega) (rA_no (by omega)))
            have k_89 := k_71.kept (fun q g1 g2 => f_75.2 q (by have := k_71.lt; omega) (rA_no (by omega)))
            have k_90 := k_72.kept (fun q g1 g2 => f_75.2 q (by have := k_72.lt; omega) (rA_no (by omega)))
            obtain ⟨rfl, hR_91, hL_92, hK_93⟩ := hv_74
            show X _ _ _ _ _ _ _ _ _ [zV (bI (((([]) ++ imW V.1.1 (gwN V.1.1 V.1.2.1 i.toNat)).length : Int) ≤ 300))] _
            refine x_pop ho d_MW_grow_60 rfl ?_
            refine x_aload_n ho 1 d_MW_grow_61 rfl ?_
            refine x_get 6 ho d_MW_grow_62 cl_MW (by decide) g_248 k_77 rfl ?_
            refine x_aload_n ho 1 d_MW_grow_65 rfl ?_
            refine x_get 7 ho d_MW_grow_66 cl_MW (by decide) g_249 k_77 rfl ?_
            have hb3 : ((tk ([] ++ imW V.1.1 (gwN V.1.1 V.1.2.1 i.toNat)) 300).length : Int) ≤ 300 := Int.ofNat_le.mpr (hK_93).b.1
            refine x_callV (rest := []) ho d_MW_grow_69 yv_LE_become g_298 g_299 g_435 (c_LE_become M.2.1 D (x + 119) 300 (gwN V.1.1 V.1.2.1 i.toNat) (x + 121) 300 (tk (([]) ++ imW V.1.1 (gwN V.1.1 V.1.2.1 i.toNat)) 300) (by omega) (by omega)) rfl rfl ⟨Nat.le_of_ble_eq_true rfl, Nat.le_of_ble_eq_true rfl⟩ ⟨Nat.le_of_ble_eq_true rfl, Nat.le_of_ble_eq_true rfl⟩ rfl rfl (Nat.le_of_ble_eq_true rfl) hL_92.1 rfl rfl ⟨hL_92, hK_93⟩ (rA_sub (by omega) (by omega)) (fun v_94 H_96 hv_94 f_95 => ?_)
            have k_97 := k_77.kept (f_95.2 _ k_77.lt (rA_no (by omega)))
            have k_98 := k_78.kept (f_95.2 _ k_78.lt (rA_no (by omega)))
            have k_99 := k_79.kept (fun q g1 g2 => f_95.2 q (by have := k_79.lt; omega) (rA_no (by omega)))
            have k_100 := k_80.kept (fun q g1 g2 => f_95.2 q (by have := k_80.lt; omega) (rA_no (by omega)))
            have k_101 := k_81.kept (fun q g1 g2 => f_95.2 q (by have := k_81.lt; omega) (rA_no (by omega)))
            have k_102 := k_82.kept (fun q g1 g2 => f_95.2 q (by have := k_82.lt; omega) (rA_no (by omega)))
            have k_103 := k_83.kept (fun q g1 g2 => f_95.2 q (by have := k_83.lt; omega) (rA_no (by omega)))
            have k_104 := k_84.kept (fun q g1 g2 => f_95.2 q (by have := k_84.lt; omega) (rA_no (by omega)))
            have k_105 := k_85.kept (fun q g1 g2 => f_95.2 q (by have := k_85.lt; omega) (rA_no (by omega)))
            have k_106 := k_86.kept (fun q g1 g2 => f_95.2 q (by have := k_86.lt; omega) (rA_no (by omega)))
            have k_107 := k_87.kept (fun q g1 g2 => f_95.2 q (by have := k_87.lt; omega) (rA_no (by omega)))
            have k_108 := k_88.kept (fun q g1 g2 => f_95.2 q (by have := k_88.lt; omega) (rA_no (by omega)))
            have k_109 := k_89.kept (fun q g1 g2 => f_95.2 q (by have := k_89.lt; omega) (rA_no (by omega)))
            have k_110 := k_90.kept (fun q g1 g2 => f_95.2 q (by have := k_90.lt; omega) (rA_no (by omega)))
            have k_111 := hR_91.kept (fun q g1 g2 => f_95.2 q (by have := hR_91.lt; omega) (rA_no (by omega)))
            obtain ⟨rfl, hL_112, hK_113⟩ := hv_94
            show X _ _ _ _ _ _ _ _ _ [] _
            refine x_iinc (L' := [(2, zV (i + 1)), (0, .ref x), (1, zV z1)]) ho 0 d_MW_grow_72 rfl rfl (by decide) rfl ?_
            refine x_goto (tgt := 30) ho d_MW_grow_75 (by decide) ?_
            exact ih_30 (i + 1) (tk ([] ++ imW V.1.1 (gwN V.1.1 V.1.2.1 i.toNat)) 300) H_96 k_97 k_98 k_111 k_99 k_100 k_101 k_102 k_103 k_104 (by rw [show (i + 1).toNat = i.toNat + 1 by omega, gwN]; exact hL_112) hK_113 k_105 k_106 k_107 k_108 k_109 k_110 (by omega) (by omega)
      exact loop_30 _ 0 xW2 H_3 k_4 k_5 k_6 hK_20 k_7 k_8 k_9 k_10 k_11 hL_19 k_12 k_13 k_14 k_15 k_16 k_17 k_18 (by omega) (Nat.lt_succ_self _)
    ·
      refine x_bipush (z := (-2)) ho d_MW_grow_11 (by decide) ?_
      refine x_iret ho hr d_MW_grow_13 ?_
      have e : m_grow z1 V = (-2, V) := by unfold m_grow; rw [cif_f (by omega)]
      exact ⟨by rw [e], by rw [e]; exact isW_mk a_o a_n a_R a_w a_k a_s a_h a_t a_r a_1 a_2 a_3 a_P a_T a_G a_M a_Z a_g⟩
def q_MW_derive (D : GG) (x : Nat) (V : WV) : Option Value → Heap → Prop := fun v0 H => v0 = some (zV ((m_derive V).1)) ∧ isW D H x ((m_derive V).2)
theorem yv_MW_derive : Yv y_MW_derive b_MW_derive 2 (Option.some FieldType.int) 0 := ⟨g_452, g_53, by decide, by decide +kernel⟩
set_option maxHeartbeats 4000000 in
set_option maxRecDepth 100000 in
theorem c_MW_derive (l0 : Launch) (D : GG) (x : Nat) (V : WV)  : Ct l0 D y_MW_derive b_MW_derive 2 (Option.some FieldType.int) ({ frames := 6, cells := 0, slots := 0, locals := 166 } : Room) [.ref x] (fun H => isW D H x V) (rA x (x + 137)) 0 0 (q_MW_derive D x V) := by
  refine Ct.of (L := [(0, .ref x)]) (by decide) (Nat.le_of_ble_eq_true rfl) rfl (fun M H ho hr hnm hH hpre => ?_)
  have hW := hpre
  obtain ⟨xpn, xp, xc, xW1, xW2, xW3, xt, xu, xfd, xg, xe1, xe2, xe3, xm1, xm2, xos, xN, xF, a_o, a_n, a_R, a_w, a_k, a_s, a_h, a_t, a_r, a_1, a_2, a_3, a_P, a_T, a_G, a_M, a_Z, a_g⟩ := id hW
  have w_b := a_w.b
  have w_w := a_w.w
  have k_b := a_k.b
  have t_b := a_t.b
  have h_b := a_h.b
  have g_1 := a_g.1.2
  have c_w := a_R.wc
  refine x_aload_n ho 0 d_MW_derive_0 rfl ?_
  refine x_get 13 ho d_MW_derive_1 cl_MW (by decide) g_255 a_o rfl ?_
  refine x_aload_n ho 0 d_MW_derive_4 rfl ?_
  refine x_get 0 ho d_MW_derive_5 cl_MW (by decide) g_242 a_o rfl ?_
  refine x_get 1 ho d_MW_derive_8 cl_ST (by decide) g_124 a_n rfl ?_
  refine x_aload_n ho 0 d_MW_derive_11 rfl ?_
  refine x_get 0 ho d_MW_derive_12 cl_MW (by decide) g_242 a_o rfl ?_
  refine x_get 2 ho d_MW_derive_15 cl_ST (by decide) g_126 a_n rfl ?_
  refine x_callV (rest := []) ho d_MW_derive_18 yv_RT_find g_454 g_455 g_453 (c_RT_find M.2.1 D (x + 132) xos xN xF (x + 1 + 13) 300 V.1.2.1 (x + 1 + 15) 20 V.1.2.2 (by omega) (by omega)) rfl rfl ⟨Nat.le_of_ble_eq_true rfl, Nat.le_of_ble_eq_true rfl⟩ ⟨Nat.le_of_ble_eq_true rfl, Nat.le_of_ble_eq_true rfl⟩ rfl rfl (Nat.le_of_ble_eq_true rfl) a_Z.1 rfl rfl ⟨a_Z, a_w, a_k⟩ (rA_sub (by omega) (by omega)) (fun v_1 H_3 hv_1 f_2 => ?_)
  have k_4 := a_o.kept (f_2.2 _ a_o.lt (rA_no (by omega)))
  have k_5 := a_n.kept (f_2.2 _ a_n.lt (rA_no (by omega)))
  have k_6 := a_R.kept (fun q g1 g2 => f_2.2 q (by have := a_R.lt; omega) (rA_no (by omega)))
  have k_7 := a_s.kept (fun q g1 g2 => f_2.2 q (by have := a_s.lt; omega) (rA_no (by omega)))
  have k_8 := a_h.kept (fun q g1 g2 => f_2.2 q (by have := a_h.lt; omega) (rA_no (by omega)))
  have k_9 := a_t.kept (fun q g1 g2 => f_2.2 q (by have := a_t.lt; omega) (rA_no (by omega)))
  have k_10 := a_r.kept (fun q g1 g2 => f_2.2 q (by have := a_r.lt; omega) (rA_no (by omega)))
  have k_11 := a_1.kept (fun q g1 g2 => f_2.2 q (by have := a_1.lt; omega) (rA_no (by omega)))
  have k_12 := a_2.kept (fun q g1 g2 => f_2.2 q (by have := a_2.lt; omega) (rA_no (by omega)))
  have k_13 := a_3.kept (fun q g1 g2 => f_2.2 q (by have := a_3.lt; omega) (rA_no (by omega)))
  have k_14 := a_P.kept (fun q g1 g2 => f_2.2 q (by have := a_P.lt; omega) (rA_no (by omega)))
  have k_15 := a_T.kept (fun q g1 g2 => f_2.2 q (by have := a_T.lt; omega) (rA_no (by omega)))
  have k_16 := a_G.kept (fun q g1 g2 => f_2.2 q (by have := a_G.lt; omega) (rA_no (by omega)))
  have k_17 := a_M.kept (fun q g1 g2 => f_2.2 q (by have := a_M.lt; omega) (rA_no (by omega)))
  obtain ⟨rfl, hT_18, hL_19, hK_20⟩ := hv_1
  show X _ _ _ _ _ _ _ _ _ [] _
  refine x_aload_n ho 0 d_MW_derive_21 rfl ?_
  refine x_get 13 ho d_MW_derive_22 cl_MW (by decide) g_255 k_4 rfl ?_
  refine x_callV (rest := []) ho d_MW_derive_25 yv_RT_rowLength g_460 g_461 g_481 (c_RT_rowLength M.2.1 D (x + 132) (ocs V.1.2.1 V.1.2.2) (roo V.1.2.1 (ocs V.1.2.1 V.1.2.2)) (fir V.1.2.1 (ocs V.1.2.1 V.1.2.2)) ) rfl rfl ⟨Nat.le_of_ble_eq_true rfl, Nat.le_of_ble_eq_true rfl⟩ ⟨Nat.le_of_ble_eq_true rfl, Nat.le_of_ble_eq_true rfl⟩ rfl rfl (Nat.le_of_ble_eq_true rfl) hT_18.1 rfl rfl hT_18 fr_none' (x_rd (fun v_21 hv_21 => ?_))
  obtain ⟨rfl, hb_23⟩ := hv_21
  show X _ _ _ _ _ _ _ _ _ [zV (rl (ocs V.1.2.1 V.1.2.2))] _
  refine x_iconst ho d_MW_derive_28 ?_
  have hrl := roo_len V.1.2.1 (ocs V.1.2.1 V.1.2.2)
  refine x_icmp_lt (tgt := 43) ho d_MW_derive_29 (by decide) (by omega) (by omega) (fun c_29 => ?_) (fun c_29 => ?_)
  ·
    refine x_bipush (z := (-4)) ho d_MW_derive_43 (by decide) ?_
    refine x_iret ho hr d_MW_derive_45 ?_
    have e : m_derive V = (-4, V) := by unfold m_derive; rw [cif_f (fun q => by have q1 : 1 ≤ rl (ocs V.1.2.1 V.1.2.2) := q.1; omega)]
    exact ⟨by rw [e], by rw [e]; exact isW_mk k_4 k_5 k_6 hL_19 hK_20 k_7 k_8 k_9 k_10 k_11 k_12 k_13 k_14 k_15 k_16 k_17 hT_18 a_g⟩
  ·
    refine x_aload_n ho 0 d_MW_derive_32 rfl ?_
    refine x_get 13 ho d_MW_derive_33 cl_MW (by decide) g_255 k_4 rfl ?_
    refine x_callV (rest := []) ho d_MW_derive_36 yv_RT_different g_483 g_484 g_482 (c_RT_different M.2.1 D (x + 132) (ocs V.1.2.1 V.1.2.2) (roo V.1.2.1 (ocs V.1.2.1 V.1.2.2)) (fir V.1.2.1 (ocs V.1.2.1 V.1.2.2)) ) rfl rfl ⟨Nat.le_of_ble_eq_true rfl, Nat.le_of_ble_eq_true rfl⟩ ⟨Nat.le_of_ble_eq_true rfl, Nat.le_of_ble_eq_true rfl⟩ rfl rfl (Nat.le_of_ble_eq_true rfl) hT_18.1 rfl rfl hT_18 fr_none' (x_rd (fun v_24 hv_24 => ?_))
    obtain ⟨rfl, hb_26⟩ := hv_24
    show X _ _ _ _ _ _ _ _ _ [zV (((fir V.1.2.1 (ocs V.1.2.1 V.1.2.2)).length : Int))] _
    refine x_iconst ho d_MW_derive_39 ?_
    refine x_icmp_le (tgt := 46) ho d_MW_derive_40 (by decide) (by omega) (by omega) (fun c_40 => ?_) (fun c_40 => ?_)
    ·
      refine x_aload_n ho 0 d_MW_derive_46 rfl ?_
      refine x_get 6 ho d_MW_derive_47 cl_MW (by decide) g_248 k_4 rfl ?_
      refine x_callV (rest := []) ho d_MW_derive_50 yv_LE_clear g_316 g_317 g_429 (c_LE_clear M.2.1 D (x + 119) 300 xW1 ) rfl rfl ⟨Nat.le_of_ble_eq_true rfl, Nat.le_of_ble_eq_true rfl⟩ ⟨Nat.le_of_ble_eq_true rfl, Nat.le_of_ble_eq_true rfl⟩ rfl rfl (Nat.le_of_ble_eq_true rfl) k_11.1 rfl rfl k_11 (rA_sub (by omega) (by omega)) (fun v_27 H_29 hv_27 f_28 => ?_)
      have k_30 := k_4.kept (f_28.2 _ k_4.lt (rA_no (by omega)))
      have k_31 := k_5.kept (f_28.2 _ k_5.lt (rA_no (by omega)))
      have k_32 := k_6.kept (fun q g1 g2 => f_28.2 q (by have := k_6.lt; omega) (rA_no (by omega)))
      have k_33 := k_7.kept (fun q g1 g2 => f_28.2 q (by have := k_7.lt; omega) (rA_no (by omega)))
      have k_34 := k_8.kept (fun q g1 g2 => f_28.2 q (by have := k_8.lt; omega) (rA_no (by omega)))
      have k_35 := k_9.kept (fun q g1 g2 => f_28.2 q (by have := k_9.lt; omega) (rA_no (by omega)))
      have k_36 := k_10.kept (fun q g1 g2 => f_28.2 q (by have := k_10.lt; omega) (rA_no (by omega)))
      have k_37 := k_12.kept (fun q g1 g2 => f_28.2 q (by have := k_12.lt; omega) (rA_no (by omega)))
      have k_38 := k_13.kept (fun q g1 g2 => f_28.2 q (by have := k_13.lt; omega) (rA_no (by omega)))
      have k_39 := k_14.kept (fun q g1 g2 => f_28.2 q (by have := k_14.lt; omega) (rA_no (by omega)))
      have k_40 := k_15.kept (fun q g1 g2 => f_28.2 q (by have := k_15.lt; omega) (rA_no (by omega)))
      have k_41 := k_16.kept (fun q g1 g2 => f_28.2 q (by have := k_16.lt; omega) (rA_no (by omega)))
      have k_42 := k_17.kept (fun q g1 g2 => f_28.2 q (by have := k_17.lt; omega) (rA_no (by omega)))
      have k_43 := hT_18.kept (fun q g1 g2 => f_28.2 q (by have := hT_18.lt; omega) (rA_no (by omega)))
      have k_44 := hL_19.kept (fun q g1 g2 => f_28.2 q (by have := hL_19.lt; omega) (rA_no (by omega)))
      have k_45 := hK_20.kept (fun q g1 g2 => f_28.2 q (by have := hK_20.lt; omega) (rA_no (by omega)))
      obtain ⟨rfl, hL_46⟩ := hv_27
      show X _ _ _ _ _ _ _ _ _ [] _
      refine x_iconst ho d_MW_derive_53 ?_
      refine x_istore_n (L' := [(1, zV 0), (0, .ref x)]) ho d_MW_derive_54 (by decide) rfl ?_
      have loop_55 : ∀ (kk : Nat) (i : Int) (H_47 : Heap) (l_o : At D H_47 x (oO 10 [.ref (x + 1), .ref (x + 18), zV V.2.2.1, .ref (x + 35), .ref (x + 105), .ref (x + 107), .ref (x + 119), .ref (x + 121), .ref (x + 123), .ref (x + 125), .ref (x + 128), .ref (x + 130), .ref (x + 131), .ref (x + 132)])) (l_n : At D H_47 (x + 1) (oO 8 [.ref (x + 1 + 1), .ref (x + 1 + 13), .ref (x + 1 + 15)])) (l_R : isR D H_47 (x + 1 + 1) xpn V.1.1) (l_w : isL D H_47 (x + 1 + 13) 300 V.1.2.1) (l_k : isL D H_47 (x + 1 + 15) 20 V.1.2.2) (l_s : isS D H_47 (x + 18) V.2.1) (l_h : isHL D H_47 (x + 35) V.2.2.2.1) (l_t : isT D H_47 (x + 105) V.2.2.2.2) (l_r : isR D H_47 (x + 107) xp xc) (l_1 : isL D H_47 (x + 119) 300 (tk (roo V.1.2.1 (ocs V.1.2.1 V.1.2.2)) i)) (l_2 : isL D H_47 (x + 121) 300 xW2) (l_3 : isL D H_47 (x + 123) 20 xW3) (l_P : isP D H_47 (x + 125) xt xu) (l_T : isPT D H_47 (x + 128) xfd xg) (l_G : isG D H_47 (x + 130) xe1 xe2 xe3) (l_M : isM D H_47 (x + 131) xm1 xm2) (l_Z : isRT D H_47 (x + 132) (ocs V.1.2.1 V.1.2.2) (roo V.1.2.1 (ocs V.1.2.1 V.1.2.2)) (fir V.1.2.1 (ocs V.1.2.1 V.1.2.2))) (i0 : 0 ≤ i ∧ i ≤ rl (ocs V.1.2.1 V.1.2.2)), (rl (ocs V.1.2.1 V.1.2.2) - i).toNat < kk → X M ({ frames := 6, cells := 0, slots := 0, locals := 166 } : Room) 2 (rA x (x + 137)) 0 0 (Qof M (rA x (x + 137)) (q_MW_derive D x V) 0 0) 55 [(1, zV i), (0, .ref x)] [] H_47 := by
        intro kk
        induction kk with
        | zero => intro i H_47 l_o l_n l_R l_w l_k l_s l_h l_t l_r l_1 l_2 l_3 l_P l_T l_G l_M l_Z i0 hk; exact absurd hk (Nat.not_lt_zero _)
        | succ kk ih_55 =>
          intro i H_47 l_o l_n l_R l_w l_k l_s l_h l_t l_r l_1 l_2 l_3 l_P l_T l_G l_M l_Z i0 hk_55
          refine x_iload_n ho 0 d_MW_derive_55 rfl ?_
          refine x_aload_n ho 1 d_MW_derive_56 rfl ?_
          refine x_get 13 ho d_MW_derive_57 cl_MW (by decide) g_255 l_o rfl ?_
          refine x_callV (rest := [zV i]) ho d_MW_derive_60 yv_RT_rowLength g_460 g_461 g_481 (c_RT_rowLength M.2.1 D (x + 132) (ocs V.1.2.1 V.1.2.2) (roo V.1.2.1 (ocs V.1.2.1 V.1.2.2)) (fir V.1.2.1 (ocs V.1.2.1 V.1.2.2)) ) rfl rfl ⟨Nat.le_of_ble_eq_true rfl, Nat.le_of_ble_eq_true rfl⟩ ⟨Nat.le_of_ble_eq_true rfl, Nat.le_of_ble_eq_true rfl⟩ rfl rfl (Nat.le_of_ble_eq_true rfl) l_Z.1 rfl rfl l_Z fr_none' (x_rd (fun v_48 hv_48 => ?_))
          obtain ⟨rfl, hb_50⟩ := hv_48
          show X _ _ _ _ _ _ _ _ _ [zV (rl (ocs V.1.2.1 V.1.2.2)), zV i] _
          refine x_icmp_ge (tgt := 88) ho d_MW_derive_63 (by decide) (by omega) (by omega) (fun c_63 => ?_) (fun c_63 => ?_)
          ·
            rw [tk_all (by omega)] at l_1
            refine x_aload_n ho 1 d_MW_derive_88 rfl ?_
            refine x_callV (rest := []) ho d_MW_derive_89 yv_MW_takeNextWord g_432 g_5 g_431 (c_MW_takeNextWord M.2.1 D x V.2.2.1 xpn V.1.1 V.1.2.1 V.1.2.2 V.2.1 V.2.2.2.1 (roo V.1.2.1 (ocs V.1.2.1 V.1.2.2)) ) rfl rfl ⟨Nat.le_of_ble_eq_true rfl, Nat.le_of_ble_eq_true rfl⟩ ⟨Nat.le_of_ble_eq_true rfl, Nat.le_of_ble_eq_true rfl⟩ rfl rfl (Nat.le_of_ble_eq_true rfl) l_o rfl rfl ⟨l_o, l_n, l_R, l_w, l_k, l_s, l_h, l_1⟩ (rA_sub (by omega) (by omega)) (fun v_51 H_53 hv_51 f_52 => ?_)
            have k_54 := l_t.kept (fun q g1 g2 => f_52.2 q (by have := l_t.lt; omega) (rA_no (by omega)))
            have k_55 := l_r.kept (fun q g1 g2 => f_52.2 q (by have := l_r.lt; omega) (rA_no (by omega)))
            have k_56 := l_2.kept (fun q g1 g2 => f_52.2 q (by have := l_2.lt; omega) (rA_no (by omega)))
            have k_57 := l_3.kept (fun q g1 g2 => f_52.2 q (by have := l_3.lt; omega) (rA_no (by omega)))
            have k_58 := l_P.kept (fun q g1 g2 => f_52.2 q (by have := l_P.lt; omega) (rA_no (by omega)))
            have k_59 := l_T.kept (fun q g1 g2 => f_52.2 q (by have := l_T.lt; omega) (rA_no (by omega)))
            have k_60 := l_G.kept (fun q g1 g2 => f_52.2 q (by have := l_G.lt; omega) (rA_no (by omega)))
            have k_61 := l_M.kept (fun q g1 g2 => f_52.2 q (by have := l_M.lt; omega) (rA_no (by omega)))
            have k_62 := l_Z.kept (fun q g1 g2 => f_52.2 q (by have := l_Z.lt; omega) (rA_no (by omega)))
            rcases hv_51 with ⟨rfl, hp_63, t_o_64, t_n_65, t_R_66, t_w_67, t_k_68, t_s_69, t_h_70, t_1_71⟩ | ⟨rfl, hp_72, t_o_73, t_n_74, t_R_75, t_w_76, t_k_77, t_s_78, t_h_79, t_1_80⟩
            ·
              show X _ _ _ _ _ _ _ _ _ [zV 0] _
              refine x_if_eq (tgt := 108) ho d_MW_derive_92 (by decide) (by omega) (fun _ => ?_) (fun c => absurd c (by decide))
              refine x_bipush (z := (-5)) ho d_MW_derive_108 (by decide) ?_
              refine x_iret ho hr d_MW_derive_110 ?_
              have e : m_derive V = (-5, V) := by unfold m_derive; rw [cif_t (⟨by show 1 ≤ rl (ocs V.1.2.1 V.1.2.2); omega, by show ((fir V.1.2.1 (ocs V.1.2.1 V.1.2.2)).length : Int) ≤ 4; omega⟩), cif_t (hp_63)]
              exact ⟨by rw [e], by rw [e]; exact isW_mk t_o_64 t_n_65 t_R_66 t_w_67 t_k_68 t_s_69 t_h_70 k_54 k_55 t_1_71 k_56 k_57 k_58 k_59 k_60 k_61 k_62 a_g⟩
            ·
              show X _ _ _ _ _ _ _ _ _ [zV 1] _
              refine x_if_eq (tgt := 108) ho d_MW_derive_92 (by decide) (by omega) (fun c => absurd c (by decide)) (fun _ => ?_)
              refine x_aload_n ho 1 d_MW_derive_95 rfl ?_
              refine x_get 0 ho d_MW_derive_96 cl_MW (by decide) g_242 t_o_73 rfl ?_
              refine x_get 1 ho d_MW_derive_99 cl_ST (by decide) g_124 t_n_74 rfl ?_
              have hb4 := (t_w_76).b
              refine x_callV (rest := []) ho d_MW_derive_102 yv_LE_length g_323 g_324 g_428 (c_LE_length M.2.1 D (x + 1 + 13) 300 (roo V.1.2.1 (ocs V.1.2.1 V.1.2.2)) ) rfl rfl ⟨Nat.le_of_ble_eq_true rfl, Nat.le_of_ble_eq_true rfl⟩ ⟨Nat.le_of_ble_eq_true rfl, Nat.le_of_ble_eq_true rfl⟩ rfl rfl (Nat.le_of_ble_eq_true rfl) t_w_76.1 rfl rfl t_w_76 fr_none' (x_rd (fun v_81 hv_81 => ?_))
              obtain rfl := hv_81
              show X _ _ _ _ _ _ _ _ _ [zV (((roo V.1.2.1 (ocs V.1.2.1 V.1.2.2)).length : Int))] _
              refine x_goto (tgt := 110) ho d_MW_derive_105 (by decide) ?_
              refine x_iret ho hr d_MW_derive_110 ?_
              have e : m_derive V = (rl (ocs V.1.2.1 V.1.2.2), act (V.1.1, roo V.1.2.1 (ocs V.1.2.1 V.1.2.2), V.1.2.2) V) := by unfold m_derive; rw [cif_t (⟨by show 1 ≤ rl (ocs V.1.2.1 V.1.2.2); omega, by show ((fir V.1.2.1 (ocs V.1.2.1 V.1.2.2)).length : Int) ≤ 4; omega⟩), cif_f (hp_72)]
              exact ⟨rI (by rw [e]; exact hrl), by rw [e]; exact isW_mk t_o_73 t_n_74 t_R_75 t_w_76 t_k_77 t_s_78 t_h_79 k_54 k_55 t_1_80 k_56 k_57 k_58 k_59 k_60 k_61 k_62 (gd_act a_g ⟨a_g.1.1, by show 1 ≤ ((roo V.1.2.1 (ocs V.1.2.1 V.1.2.2)).length : Int); omega⟩)⟩
          ·
            refine x_aload_n ho 1 d_MW_derive_66 rfl ?_
            refine x_get 6 ho d_MW_derive_67 cl_MW (by decide) g_248 l_o rfl ?_
            refine x_aload_n ho 1 d_MW_derive_70 rfl ?_
            refine x_get 13 ho d_MW_derive_71 cl_MW (by decide) g_255 l_o rfl ?_
            refine x_iload_n ho 0 d_MW_derive_74 rfl ?_
            refine x_callV (rest := [.ref (x + 119)]) ho d_MW_derive_75 yv_RT_numberAt g_487 g_488 g_486 (c_RT_numberAt M.2.1 D (x + 132) (ocs V.1.2.1 V.1.2.2) (roo V.1.2.1 (ocs V.1.2.1 V.1.2.2)) (fir V.1.2.1 (ocs V.1.2.1 V.1.2.2)) i (by omega)) rfl rfl ⟨Nat.le_of_ble_eq_true rfl, Nat.le_of_ble_eq_true rfl⟩ ⟨Nat.le_of_ble_eq_true rfl, Nat.le_of_ble_eq_true rfl⟩ rfl rfl (Nat.le_of_ble_eq_true rfl) l_Z.1 rfl rfl l_Z fr_none' (x_rd (fun v_83 hv_83 => ?_))
            obtain ⟨rfl, hb_85⟩ := hv_83
            show X _ _ _ _ _ _ _ _ _ [zV (gA (roo V.1.2.1 (ocs V.1.2.1 V.1.2.2)) i), .ref (x + 119)] _
            have htl := tk_len (L := roo V.1.2.1 (ocs V.1.2.1 V.1.2.2)) (i := i) (by omega) (by omega)
            refine x_callV (rest := []) ho d_MW_derive_78 yv_LE_add g_106 g_107 g_430 (c_LE_add M.2.1 D (x + 119) 300 (tk (roo V.1.2.1 (ocs V.1.2.1 V.1.2.2)) i) (gA (roo V.1.2.1 (ocs V.1.2.1 V.1.2.2)) i) (by omega)) rfl rfl ⟨Nat.le_of_ble_eq_true rfl, Nat.le_of_ble_eq_true rfl⟩ ⟨Nat.le_of_ble_eq_true rfl, Nat.le_of_ble_eq_true rfl⟩ rfl rfl (Nat.le_of_ble_eq_true rfl) l_1.1 rfl rfl l_1 (rA_sub (by omega) (by omega)) (fun v_86 H_88 hv_86 f_87 => ?_)
            have k_89 := l_o.kept (f_87.2 _ l_o.lt (rA_no (by omega)))
            have k_90 := l_n.kept (f_87.2 _ l_n.lt (rA_no (by omega)))
            have k_91 := l_R.kept (fun q g1 g2 => f_87.2 q (by have := l_R.lt; omega) (rA_no (by omega)))
            have k_92 := l_w.kept (fun q g1 g2 => f_87.2 q (by have := l_w.lt; omega) (rA_no (by omega)))
            have k_93 := l_k.kept (fun q g1 g2 => f_87.2 q (by have := l_k.lt; omega) (rA_no (by omega)))
            have k_94 := l_s.kept (fun q g1 g2 => f_87.2 q (by have := l_s.lt; omega) (rA_no (by omega)))
            have k_95 := l_h.kept (fun q g1 g2 => f_87.2 q (by have := l_h.lt; omega) (rA_no (by omega)))
            have k_96 := l_t.kept (fun q g1 g2 => f_87.2 q (by have := l_t.lt; omega) (rA_no (by omega)))
            have k_97 := l_r.kept (fun q g1 g2 => f_87.2 q (by have := l_r.lt; omega) (rA_no (by omega)))
            have k_98 := l_2.kept (fun q g1 g2 => f_87.2 q (by have := l_2.lt; omega) (rA_no (by omega)))
            have k_99 := l_3.kept (fun q g1 g2 => f_87.2 q (by have := l_3.lt; omega) (rA_no (by omega)))
            have k_100 := l_P.kept (fun q g1 g2 => f_87.2 q (by have := l_P.lt; omega) (rA_no (by omega)))
            have k_101 := l_T.kept (fun q g1 g2 => f_87.2 q (by have := l_T.lt; omega) (rA_no (by omega)))
            have k_102 := l_G.kept (fun q g1 g2 => f_87.2 q (by have := l_G.lt; omega) (rA_no (by omega)))
            have k_103 := l_M.kept (fun q g1 g2 => f_87.2 q (by have := l_M.lt; omega) (rA_no (by omega)))
            have k_104 := l_Z.kept (fun q g1 g2 => f_87.2 q (by have := l_Z.lt; omega) (rA_no (by omega)))
            rcases hv_86 with ⟨rfl, hp_105, hL_106⟩ | ⟨rfl, hp_107, hL_108⟩
            ·
              show X _ _ _ _ _ _ _ _ _ [zV 1] _
              refine x_pop ho d_MW_derive_81 rfl ?_
              refine x_iinc (L' := [(1, zV (i + 1)), (0, .ref x)]) ho 0 d_MW_derive_82 rfl rfl (by decide) rfl ?_
              refine x_goto (tgt := 55) ho d_MW_derive_85 (by decide) ?_
              exact ih_55 (i + 1) H_88 k_89 k_90 k_91 k_92 k_93 k_94 k_95 k_96 k_97 (by rw [tk_succ (by omega) (by omega)]; exact hL_106) k_98 k_99 k_100 k_101 k_102 k_103 k_104 (by omega) (by omega)
            ·
              omega
      exact loop_55 _ 0 H_29 k_30 k_31 k_32 k_44 k_45 k_33 k_34 k_35 k_36 (by rw [tk_0]; exact hL_46) k_37 k_38 k_39 k_40 k_41 k_42 k_43 (by omega) (Nat.lt_succ_self _)
    ·
      refine x_bipush (z := (-4)) ho d_MW_derive_43 (by decide) ?_
      refine x_iret ho hr d_MW_derive_45 ?_
      have e : m_derive V = (-4, V) := by unfold m_derive; rw [cif_f (fun q => by have q1 : ((fir V.1.2.1 (ocs V.1.2.1 V.1.2.2)).length : Int) ≤ 4 := q.2; omega)]
      exact ⟨by rw [e], by rw [e]; exact isW_mk k_4 k_5 k_6 hL_19 hK_20 k_7 k_8 k_9 k_10 k_11 k_12 k_13 k_14 k_15 k_16 k_17 hT_18 a_g⟩
def q_MW_look (D : GG) (x : Nat) (V : WV) : Option Value → Heap → Prop := fun v0 H => v0 = some (zV ((m_look V).1)) ∧ isW D H x ((m_look V).2)
theorem yv_MW_look : Yv y_MW_look b_MW_look 2 (Option.some FieldType.int) 0 := ⟨g_493, g_53, by decide, by decide +kernel⟩
set_option maxHeartbeats 4000000 in
set_option maxRecDepth 100000 in
theorem c_MW_look (l0 : Launch) (D : GG) (x : Nat) (V : WV)  : Ct l0 D y_MW_look b_MW_look 2 (Option.some FieldType.int) ({ frames := 5, cells := 0, slots := 0, locals := 146 } : Room) [.ref x] (fun H => isW D H x V) (rA x (x + 137)) 0 0 (q_MW_look D x V) := by
  refine Ct.of (L := [(0, .ref x)]) (by decide) (Nat.le_of_ble_eq_true rfl) rfl (fun M H ho hr hnm hH hpre => ?_)
  have hW := hpre
  obtain ⟨xpn, xp, xc, xW1, xW2, xW3, xt, xu, xfd, xg, xe1, xe2, xe3, xm1, xm2, xos, xN, xF, a_o, a_n, a_R, a_w, a_k, a_s, a_h, a_t, a_r, a_1, a_2, a_3, a_P, a_T, a_G, a_M, a_Z, a_g⟩ := id hW
  have w_b := a_w.b
  have w_w := a_w.w
  have k_b := a_k.b
  have t_b := a_t.b
  have h_b := a_h.b
  have g_1 := a_g.1.2
  have c_w := a_R.wc
  refine x_aload_n ho 0 d_MW_look_0 rfl ?_
  refine x_get 4 ho d_MW_look_1 cl_MW (by decide) g_246 a_o rfl ?_
  refine x_aload_n ho 0 d_MW_look_4 rfl ?_
  refine x_get 8 ho d_MW_look_5 cl_MW (by decide) g_250 a_o rfl ?_
  refine x_callV (rest := []) ho d_MW_look_8 yv_TX_readInto2 g_495 g_496 g_494 (c_TX_readInto2 M.2.1 D (x + 105) V.2.2.2.2 (x + 123) xW3 (by omega)) rfl rfl ⟨Nat.le_of_ble_eq_true rfl, Nat.le_of_ble_eq_true rfl⟩ ⟨Nat.le_of_ble_eq_true rfl, Nat.le_of_ble_eq_true rfl⟩ rfl rfl (Nat.le_of_ble_eq_true rfl) a_t.1 rfl rfl ⟨a_t, a_3⟩ (rA_sub (by omega) (by omega)) (fun v_1 H_3 hv_1 f_2 => ?_)
  have k_4 := a_o.kept (f_2.2 _ a_o.lt (rA_no (by omega)))
  have k_5 := a_n.kept (f_2.2 _ a_n.lt (rA_no (by omega)))
  have k_6 := a_R.kept (fun q g1 g2 => f_2.2 q (by have := a_R.lt; omega) (rA_no (by omega)))
  have k_7 := a_w.kept (fun q g1 g2 => f_2.2 q (by have := a_w.lt; omega) (rA_no (by omega)))
  have k_8 := a_k.kept (fun q g1 g2 => f_2.2 q (by have := a_k.lt; omega) (rA_no (by omega)))
  have k_9 := a_s.kept (fun q g1 g2 => f_2.2 q (by have := a_s.lt; omega) (rA_no (by omega)))
  have k_10 := a_h.kept (fun q g1 g2 => f_2.2 q (by have := a_h.lt; omega) (rA_no (by omega)))
  have k_11 := a_r.kept (fun q g1 g2 => f_2.2 q (by have := a_r.lt; omega) (rA_no (by omega)))
  have k_12 := a_1.kept (fun q g1 g2 => f_2.2 q (by have := a_1.lt; omega) (rA_no (by omega)))
  have k_13 := a_2.kept (fun q g1 g2 => f_2.2 q (by have := a_2.lt; omega) (rA_no (by omega)))
  have k_14 := a_P.kept (fun q g1 g2 => f_2.2 q (by have := a_P.lt; omega) (rA_no (by omega)))
  have k_15 := a_T.kept (fun q g1 g2 => f_2.2 q (by have := a_T.lt; omega) (rA_no (by omega)))
  have k_16 := a_G.kept (fun q g1 g2 => f_2.2 q (by have := a_G.lt; omega) (rA_no (by omega)))
  have k_17 := a_M.kept (fun q g1 g2 => f_2.2 q (by have := a_M.lt; omega) (rA_no (by omega)))
  have k_18 := a_Z.kept (fun q g1 g2 => f_2.2 q (by have := a_Z.lt; omega) (rA_no (by omega)))
  obtain ⟨rfl, hT_19, hK_20⟩ := hv_1
  show X _ _ _ _ _ _ _ _ _ [zV ((pau V.2.2.2.2 [] 0).1)] _
  refine x_istore_n (L' := [(1, zV ((pau V.2.2.2.2 [] 0).1)), (0, .ref x)]) ho d_MW_look_11 (by decide) rfl ?_
  refine x_iload_n ho 0 d_MW_look_12 rfl ?_
  refine x_iconst ho d_MW_look_13 ?_
  have hpr := pau_r V.2.2.2.2 [] 0 (by omega) (fun _ => trivial)
  refine x_icmp_eq (tgt := 22) ho d_MW_look_14 (by decide) (by omega) (by omega) (fun c_14 => ?_) (fun c_14 => ?_)
  ·
    refine x_aload_n ho 1 d_MW_look_22 rfl ?_
    refine x_get 8 ho d_MW_look_23 cl_MW (by decide) g_250 k_4 rfl ?_
    refine x_aload_n ho 1 d_MW_look_26 rfl ?_
    refine x_get 0 ho d_MW_look_27 cl_MW (by decide) g_242 k_4 rfl ?_
    refine x_get 2 ho d_MW_look_30 cl_ST (by decide) g_126 k_5 rfl ?_
    refine x_callV (rest := []) ho d_MW_look_33 yv_LE_same g_335 g_336 g_434 (c_LE_same M.2.1 D (x + 123) 20 ((pau V.2.2.2.2 [] 0).2) (x + 1 + 15) 20 V.1.2.2 ) rfl rfl ⟨Nat.le_of_ble_eq_true rfl, Nat.le_of_ble_eq_true rfl⟩ ⟨Nat.le_of_ble_eq_true rfl, Nat.le_of_ble_eq_true rfl⟩ rfl rfl (Nat.le_of_ble_eq_true rfl) hK_20.1 rfl rfl ⟨hK_20, k_8⟩ fr_none' (x_rd (fun v_21 hv_21 => ?_))
    obtain rfl := hv_21
    show X _ _ _ _ _ _ _ _ _ [zV (bI (((pau V.2.2.2.2 [] 0).2) = V.1.2.2))] _
    refine x_if_eqB (tgt := 42) ho d_MW_look_36 (by decide) (fun c_36 => ?_) (fun c_36 => ?_)
    ·
      refine x_aload_n ho 1 d_MW_look_42 rfl ?_
      refine x_get 3 ho d_MW_look_43 cl_MW (by decide) g_245 k_4 rfl ?_
      refine x_aload_n ho 1 d_MW_look_46 rfl ?_
      refine x_get 0 ho d_MW_look_47 cl_MW (by decide) g_242 k_4 rfl ?_
      have hS_23 : isS D H_3 (x + 1) V.1 := ⟨k_5, ⟨_, k_6⟩, k_7, k_8⟩
      refine x_callV (rest := []) ho d_MW_look_50 yv_HI_record g_347 g_348 g_346 (c_HI_record M.2.1 D (x + 35) V.2.2.2.1 (x + 1) V.1 (by omega)) rfl rfl ⟨Nat.le_of_ble_eq_true rfl, Nat.le_of_ble_eq_true rfl⟩ ⟨Nat.le_of_ble_eq_true rfl, Nat.le_of_ble_eq_true rfl⟩ rfl rfl (Nat.le_of_ble_eq_true rfl) k_10.o rfl rfl ⟨k_10, hS_23⟩ (rA_sub (by omega) (by omega)) (fun v_24 H_26 hv_24 f_25 => ?_)
      have k_27 := k_4.kept (f_25.2 _ k_4.lt (rA_no (by omega)))
      have k_28 := k_5.kept (f_25.2 _ k_5.lt (rA_no (by omega)))
      have k_29 := k_6.kept (fun q g1 g2 => f_25.2 q (by have := k_6.lt; omega) (rA_no (by omega)))
      have k_30 := k_7.kept (fun q g1 g2 => f_25.2 q (by have := k_7.lt; omega) (rA_no (by omega)))
      have k_31 := k_8.kept (fun q g1 g2 => f_25.2 q (by have := k_8.lt; omega) (rA_no (by omega)))
      have k_32 := k_9.kept (fun q g1 g2 => f_25.2 q (by have := k_9.lt; omega) (rA_no (by omega)))
      have k_33 := k_11.kept (fun q g1 g2 => f_25.2 q (by have := k_11.lt; omega) (rA_no (by omega)))
      have k_34 := k_12.kept (fun q g1 g2 => f_25.2 q (by have := k_12.lt; omega) (rA_no (by omega)))
      have k_35 := k_13.kept (fun q g1 g2 => f_25.2 q (by have := k_13.lt; omega) (rA_no (by omega)))
      have k_36 := k_14.kept (fun q g1 g2 => f_25.2 q (by have := k_14.lt; omega) (rA_no (by omega)))
      have k_37 := k_15.kept (fun q g1 g2 => f_25.2 q (by have := k_15.lt; omega) (rA_no (by omega)))
      have k_38 := k_16.kept (fun q g1 g2 => f_25.2 q (by have := k_16.lt; omega) (rA_no (by omega)))
      have k_39 := k_17.kept (fun q g1 g2 => f_25.2 q (by have := k_17.lt; omega) (rA_no (by omega)))
      have k_40 := k_18.kept (fun q g1 g2 => f_25.2 q (by have := k_18.lt; omega) (rA_no (by omega)))
      have k_41 := hT_19.kept (fun q g1 g2 => f_25.2 q (by have := hT_19.lt; omega) (rA_no (by omega)))
      have k_42 := hK_20.kept (fun q g1 g2 => f_25.2 q (by have := hK_20.lt; omega) (rA_no (by omega)))
      obtain ⟨rfl, hX_43, hS_44⟩ := hv_24
      show X _ _ _ _ _ _ _ _ _ [] _
      refine x_aload_n ho 1 d_MW_look_53 rfl ?_
      refine x_get 0 ho d_MW_look_54 cl_MW (by decide) g_242 k_27 rfl ?_
      refine x_get 2 ho d_MW_look_57 cl_ST (by decide) g_126 k_28 rfl ?_
      refine x_aload_n ho 1 d_MW_look_60 rfl ?_
      refine x_get 8 ho d_MW_look_61 cl_MW (by decide) g_250 k_27 rfl ?_
      have hb5 := (k_42).b
      refine x_callV (rest := []) ho d_MW_look_64 yv_LE_become g_298 g_299 g_435 (c_LE_become M.2.1 D (x + 1 + 15) 20 V.1.2.2 (x + 123) 20 ((pau V.2.2.2.2 [] 0).2) (by omega) (by omega)) rfl rfl ⟨Nat.le_of_ble_eq_true rfl, Nat.le_of_ble_eq_true rfl⟩ ⟨Nat.le_of_ble_eq_true rfl, Nat.le_of_ble_eq_true rfl⟩ rfl rfl (Nat.le_of_ble_eq_true rfl) k_31.1 rfl rfl ⟨k_31, k_42⟩ (rA_sub (by omega) (by omega)) (fun v_45 H_47 hv_45 f_46 => ?_)
      have k_48 := k_27.kept (f_46.2 _ k_27.lt (rA_no (by omega)))
      have k_49 := k_28.kept (f_46.2 _ k_28.lt (rA_no (by omega)))
      have k_50 := k_29.kept (fun q g1 g2 => f_46.2 q (by have := k_29.lt; omega) (rA_no (by omega)))
      have k_51 := k_30.kept (fun q g1 g2 => f_46.2 q (by have := k_30.lt; omega) (rA_no (by omega)))
      have k_52 := k_32.kept (fun q g1 g2 => f_46.2 q (by have := k_32.lt; omega) (rA_no (by omega)))
      have k_53 := k_33.kept (fun q g1 g2 => f_46.2 q (by have := k_33.lt; omega) (rA_no (by omega)))
      have k_54 := k_34.kept (fun q g1 g2 => f_46.2 q (by have := k_34.lt; omega) (rA_no (by omega)))
      have k_55 := k_35.kept (fun q g1 g2 => f_46.2 q (by have := k_35.lt; omega) (rA_no (by omega)))
      have k_56 := k_36.kept (fun q g1 g2 => f_46.2 q (by have := k_36.lt; omega) (rA_no (by omega)))
      have k_57 := k_37.kept (fun q g1 g2 => f_46.2 q (by have := k_37.lt; omega) (rA_no (by omega)))
      have k_58 := k_38.kept (fun q g1 g2 => f_46.2 q (by have := k_38.lt; omega) (rA_no (by omega)))
      have k_59 := k_39.kept (fun q g1 g2 => f_46.2 q (by have := k_39.lt; omega) (rA_no (by omega)))
      have k_60 := k_40.kept (fun q g1 g2 => f_46.2 q (by have := k_40.lt; omega) (rA_no (by omega)))
      have k_61 := k_41.kept (fun q g1 g2 => f_46.2 q (by have := k_41.lt; omega) (rA_no (by omega)))
      have k_62 := hX_43.kept (fun q g1 g2 => f_46.2 q (by have := hX_43.lt; omega) (rA_no (by omega)))
      obtain ⟨rfl, hL_63, hK_64⟩ := hv_45
      show X _ _ _ _ _ _ _ _ _ [] _
      refine x_aload_n ho 1 d_MW_look_67 rfl ?_
      refine x_get 13 ho d_MW_look_68 cl_MW (by decide) g_255 k_48 rfl ?_
      refine x_aload_n ho 1 d_MW_look_71 rfl ?_
      refine x_get 0 ho d_MW_look_72 cl_MW (by decide) g_242 k_48 rfl ?_
      refine x_get 1 ho d_MW_look_75 cl_ST (by decide) g_124 k_49 rfl ?_
      refine x_aload_n ho 1 d_MW_look_78 rfl ?_
      refine x_get 0 ho d_MW_look_79 cl_MW (by decide) g_242 k_48 rfl ?_
      refine x_get 2 ho d_MW_look_82 cl_ST (by decide) g_126 k_49 rfl ?_
      refine x_callV (rest := []) ho d_MW_look_85 yv_RT_find g_454 g_455 g_453 (c_RT_find M.2.1 D (x + 132) xos xN xF (x + 1 + 13) 300 V.1.2.1 (x + 1 + 15) 20 ((pau V.2.2.2.2 [] 0).2) (by omega) (by omega)) rfl rfl ⟨Nat.le_of_ble_eq_true rfl, Nat.le_of_ble_eq_true rfl⟩ ⟨Nat.le_of_ble_eq_true rfl, Nat.le_of_ble_eq_true rfl⟩ rfl rfl (Nat.le_of_ble_eq_true rfl) k_60.1 rfl rfl ⟨k_60, k_51, hL_63⟩ (rA_sub (by omega) (by omega)) (fun v_65 H_67 hv_65 f_66 => ?_)
      have k_68 := k_48.kept (f_66.2 _ k_48.lt (rA_no (by omega)))
      have k_69 := k_49.kept (f_66.2 _ k_49.lt (rA_no (by omega)))
      have k_70 := k_50.kept (fun q g1 g2 => f_66.2 q (by have := k_50.lt; omega) (rA_no (by omega)))
      have k_71 := k_52.kept (fun q g1 g2 => f_66.2 q (by have := k_52.lt; omega) (rA_no (by omega)))
      have k_72 := k_53.kept (fun q g1 g2 => f_66.2 q (by have := k_53.lt; omega) (rA_no (by omega)))
      have k_73 := k_54.kept (fun q g1 g2 => f_66.2 q (by have := k_54.lt; omega) (rA_no (by omega)))
      have k_74 := k_55.kept (fun q g1 g2 => f_66.2 q (by have := k_55.lt; omega) (rA_no (by omega)))
      have k_75 := k_56.kept (fun q g1 g2 => f_66.2 q (by have := k_56.lt; omega) (rA_no (by omega)))
      have k_76 := k_57.kept (fun q g1 g2 => f_66.2 q (by have := k_57.lt; omega) (rA_no (by omega)))
      have k_77 := k_58.kept (fun q g1 g2 => f_66.2 q (by have := k_58.lt; omega) (rA_no (by omega)))
      have k_78 := k_59.kept (fun q g1 g2 => f_66.2 q (by have := k_59.lt; omega) (rA_no (by omega)))
      have k_79 := k_61.kept (fun q g1 g2 => f_66.2 q (by have := k_61.lt; omega) (rA_no (by omega)))
      have k_80 := k_62.kept (fun q g1 g2 => f_66.2 q (by have := k_62.lt; omega) (rA_no (by omega)))
      have k_81 := hK_64.kept (fun q g1 g2 => f_66.2 q (by have := hK_64.lt; omega) (rA_no (by omega)))
      obtain ⟨rfl, hT_82, hL_83, hK_84⟩ := hv_65
      show X _ _ _ _ _ _ _ _ _ [] _
      refine x_aload_n ho 1 d_MW_look_88 rfl ?_
      refine x_get 13 ho d_MW_look_89 cl_MW (by decide) g_255 k_68 rfl ?_
      refine x_callV (rest := []) ho d_MW_look_92 yv_RT_found g_499 g_500 g_498 (c_RT_found M.2.1 D (x + 132) (ocs V.1.2.1 ((pau V.2.2.2.2 [] 0).2)) (roo V.1.2.1 (ocs V.1.2.1 ((pau V.2.2.2.2 [] 0).2))) (fir V.1.2.1 (ocs V.1.2.1 ((pau V.2.2.2.2 [] 0).2))) ) rfl rfl ⟨Nat.le_of_ble_eq_true rfl, Nat.le_of_ble_eq_true rfl⟩ ⟨Nat.le_of_ble_eq_true rfl, Nat.le_of_ble_eq_true rfl⟩ rfl rfl (Nat.le_of_ble_eq_true rfl) hT_82.1 rfl rfl hT_82 fr_none' (x_rd (fun v_85 hv_85 => ?_))
      obtain ⟨rfl, hb_87⟩ := hv_85
      show X _ _ _ _ _ _ _ _ _ [zV (((ocs V.1.2.1 ((pau V.2.2.2.2 [] 0).2)).length : Int))] _
      refine x_iret ho hr d_MW_look_95 ?_
      have e : m_look V = (((ocs V.1.2.1 (pau V.2.2.2.2 [] 0).2).length : Int), act (V.1.1, V.1.2.1, (pau V.2.2.2.2 [] 0).2) V) := by unfold m_look; rw [cif_f (fun q => q c_14), cif_f (c_36)]
      exact ⟨by rw [e], by rw [e]; exact isW_mk k_68 k_69 k_70 hL_83 hK_84 k_71 k_80 k_79 k_72 k_73 k_74 k_81 k_75 k_76 k_77 k_78 hT_82 (gd_act a_g ⟨a_g.1.1, a_g.1.2⟩)⟩
    ·
      refine x_bipush (z := (-5)) ho d_MW_look_39 (by decide) ?_
      refine x_iret ho hr d_MW_look_41 ?_
      have e : m_look V = (-5, V) := by unfold m_look; rw [cif_f (fun q => q c_14), cif_t (c_36)]
      exact ⟨by rw [e], by rw [e]; exact isW_mk k_4 k_5 k_6 k_7 k_8 k_9 k_10 hT_19 k_11 k_12 k_13 hK_20 k_14 k_15 k_16 k_17 k_18 a_g⟩
  ·
    refine x_bipush (z := (-100)) ho d_MW_look_17 (by decide) ?_
    refine x_iload_n ho 0 d_MW_look_19 rfl ?_
    refine x_isub ho d_MW_look_20 ?_
    refine x_iret ho hr d_MW_look_21 ?_
    have e : m_look V = (-100 - (pau V.2.2.2.2 [] 0).1, V) := by unfold m_look; rw [cif_t (c_14)]
    exact ⟨by rw [e], by rw [e]; exact isW_mk k_4 k_5 k_6 k_7 k_8 k_9 k_10 hT_19 k_11 k_12 k_13 hK_20 k_14 k_15 k_16 k_17 k_18 a_g⟩
def q_MW_readRule (D : GG) (x : Nat) (V : WV) : Option Value → Heap → Prop := fun v0 H => v0 = some (zV ((m_readRule V).1)) ∧ isW D H x ((m_readRule V).2)
theorem yv_MW_readRule : Yv y_MW_readRule b_MW_readRule 2 (Option.some FieldType.int) 0 := ⟨g_288, g_53, by decide, by decide +kernel⟩
set_option maxHeartbeats 4000000 in
set_option maxRecDepth 100000 in
theorem c_MW_readRule (l0 : Launch) (D : GG) (x : Nat) (V : WV)  : Ct l0 D y_MW_readRule b_MW_readRule 2 (Option.some FieldType.int) ({ frames := 6, cells := 0, slots := 0, locals := 166 } : Room) [.ref x] (fun H => isW D H x V) (rA x (x + 137)) 0 0 (q_MW_readRule D x V) := by
  refine Ct.of (L := [(0, .ref x)]) (by decide) (Nat.le_of_ble_eq_true rfl) rfl (fun M H ho hr hnm hH hpre => ?_)
  have hW := hpre
  obtain ⟨xpn, xp, xc, xW1, xW2, xW3, xt, xu, xfd, xg, xe1, xe2, xe3, xm1, xm2, xos, xN, xF, a_o, a_n, a_R, a_w, a_k, a_s, a_h, a_t, a_r, a_1, a_2, a_3, a_P, a_T, a_G, a_M, a_Z, a_g⟩ := id hW
  have w_b := a_w.b
  have w_w := a_w.w
  have k_b := a_k.b
  have t_b := a_t.b
  have h_b := a_h.b
  have g_1 := a_g.1.2
  have c_w := a_R.wc
  refine x_aload_n ho 0 d_MW_readRule_0 rfl ?_
  refine x_get 5 ho d_MW_readRule_1 cl_MW (by decide) g_247 a_o rfl ?_
  refine x_aload_n ho 0 d_MW_readRule_4 rfl ?_
  refine x_get 0 ho d_MW_readRule_5 cl_MW (by decide) g_242 a_o rfl ?_
  refine x_get 0 ho d_MW_readRule_8 cl_ST (by decide) g_122 a_n rfl ?_
  refine x_callV (rest := []) ho d_MW_readRule_11 yv_RU_become g_290 g_291 g_289 (c_RU_become M.2.1 D (x + 107) xp xc (x + 1 + 1) xpn V.1.1 (by omega)) rfl rfl ⟨Nat.le_of_ble_eq_true rfl, Nat.le_of_ble_eq_true rfl⟩ ⟨Nat.le_of_ble_eq_true rfl, Nat.le_of_ble_eq_true rfl⟩ rfl rfl (Nat.le_of_ble_eq_true rfl) a_r.1 rfl rfl ⟨a_r, a_R⟩ (rA_sub (by omega) (by omega)) (fun v_1 H_3 hv_1 f_2 => ?_)
  have k_4 := a_o.kept (f_2.2 _ a_o.lt (rA_no (by omega)))
  have k_5 := a_n.kept (f_2.2 _ a_n.lt (rA_no (by omega)))
  have k_6 := a_w.kept (fun q g1 g2 => f_2.2 q (by have := a_w.lt; omega) (rA_no (by omega)))
  have k_7 := a_k.kept (fun q g1 g2 => f_2.2 q (by have := a_k.lt; omega) (rA_no (by omega)))
  have k_8 := a_s.kept (fun q g1 g2 => f_2.2 q (by have := a_s.lt; omega) (rA_no (by omega)))
  have k_9 := a_h.kept (fun q g1 g2 => f_2.2 q (by have := a_h.lt; omega) (rA_no (by omega)))
  have k_10 := a_t.kept (fun q g1 g2 => f_2.2 q (by have := a_t.lt; omega) (rA_no (by omega)))
  have k_11 := a_1.kept (fun q g1 g2 => f_2.2 q (by have := a_1.lt; omega) (rA_no (by omega)))
  have k_12 := a_2.kept (fun q g1 g2 => f_2.2 q (by have := a_2.lt; omega) (rA_no (by omega)))
  have k_13 := a_3.kept (fun q g1 g2 => f_2.2 q (by have := a_3.lt; omega) (rA_no (by omega)))
  have k_14 := a_P.kept (fun q g1 g2 => f_2.2 q (by have := a_P.lt; omega) (rA_no (by omega)))
  have k_15 := a_T.kept (fun q g1 g2 => f_2.2 q (by have := a_T.lt; omega) (rA_no (by omega)))
  have k_16 := a_G.kept (fun q g1 g2 => f_2.2 q (by have := a_G.lt; omega) (rA_no (by omega)))
  have k_17 := a_M.kept (fun q g1 g2 => f_2.2 q (by have := a_M.lt; omega) (rA_no (by omega)))
  have k_18 := a_Z.kept (fun q g1 g2 => f_2.2 q (by have := a_Z.lt; omega) (rA_no (by omega)))
  obtain ⟨rfl, hR_19, hS_20⟩ := hv_1
  show X _ _ _ _ _ _ _ _ _ [] _
  refine x_aload_n ho 0 d_MW_readRule_14 rfl ?_
  refine x_get 4 ho d_MW_readRule_15 cl_MW (by decide) g_246 k_4 rfl ?_
  refine x_aload_n ho 0 d_MW_readRule_18 rfl ?_
  refine x_get 5 ho d_MW_readRule_19 cl_MW (by decide) g_247 k_4 rfl ?_
  refine x_callV (rest := []) ho d_MW_readRule_22 yv_TX_readInto g_308 g_309 g_307 (c_TX_readInto M.2.1 D (x + 105) V.2.2.2.2 (x + 107) xp V.1.1 (by omega)) rfl rfl ⟨Nat.le_of_ble_eq_true rfl, Nat.le_of_ble_eq_true rfl⟩ ⟨Nat.le_of_ble_eq_true rfl, Nat.le_of_ble_eq_true rfl⟩ rfl rfl (Nat.le_of_ble_eq_true rfl) k_10.1 rfl rfl ⟨k_10, hR_19⟩ (rA_sub (by omega) (by omega)) (fun v_21 H_23 hv_21 f_22 => ?_)
  have k_24 := k_4.kept (f_22.2 _ k_4.lt (rA_no (by omega)))
  have k_25 := k_5.kept (f_22.2 _ k_5.lt (rA_no (by omega)))
  have k_26 := k_6.kept (fun q g1 g2 => f_22.2 q (by have := k_6.lt; omega) (rA_no (by omega)))
  have k_27 := k_7.kept (fun q g1 g2 => f_22.2 q (by have := k_7.lt; omega) (rA_no (by omega)))
  have k_28 := k_8.kept (fun q g1 g2 => f_22.2 q (by have := k_8.lt; omega) (rA_no (by omega)))
  have k_29 := k_9.kept (fun q g1 g2 => f_22.2 q (by have := k_9.lt; omega) (rA_no (by omega)))
  have k_30 := k_11.kept (fun q g1 g2 => f_22.2 q (by have := k_11.lt; omega) (rA_no (by omega)))
  have k_31 := k_12.kept (fun q g1 g2 => f_22.2 q (by have := k_12.lt; omega) (rA_no (by omega)))
  have k_32 := k_13.kept (fun q g1 g2 => f_22.2 q (by have := k_13.lt; omega) (rA_no (by omega)))
  have k_33 := k_14.kept (fun q g1 g2 => f_22.2 q (by have := k_14.lt; omega) (rA_no (by omega)))
  have k_34 := k_15.kept (fun q g1 g2 => f_22.2 q (by have := k_15.lt; omega) (rA_no (by omega)))
  have k_35 := k_16.kept (fun q g1 g2 => f_22.2 q (by have := k_16.lt; omega) (rA_no (by omega)))
  have k_36 := k_17.kept (fun q g1 g2 => f_22.2 q (by have := k_17.lt; omega) (rA_no (by omega)))
  have k_37 := k_18.kept (fun q g1 g2 => f_22.2 q (by have := k_18.lt; omega) (rA_no (by omega)))
  have k_38 := hS_20.kept (fun q g1 g2 => f_22.2 q (by have := hS_20.lt; omega) (rA_no (by omega)))
  obtain ⟨rfl, hT_39, hR_40⟩ := hv_21
  show X _ _ _ _ _ _ _ _ _ [zV ((aut V.2.2.2.2 0 (-1) V.1.1 0).1)] _
  refine x_istore_n (L' := [(1, zV ((aut V.2.2.2.2 0 (-1) V.1.1 0).1)), (0, .ref x)]) ho d_MW_readRule_25 (by decide) rfl ?_
  refine x_iload_n ho 0 d_MW_readRule_26 rfl ?_
  refine x_iconst ho d_MW_readRule_27 ?_
  have har := aut_r V.2.2.2.2 0 (-1) V.1.1 0 (by omega) (fun _ => trivial)
  refine x_icmp_eq (tgt := 36) ho d_MW_readRule_28 (by decide) (by omega) (by omega) (fun c_28 => ?_) (fun c_28 => ?_)
  ·
    refine x_aload_n ho 1 d_MW_readRule_36 rfl ?_
    refine x_callV (rest := []) ho d_MW_readRule_37 yv_MW_takeNextRule g_328 g_2 g_327 (c_MW_takeNextRule M.2.1 D x V.2.2.1 xpn V.1.1 V.1.2.1 V.1.2.2 V.2.1 V.2.2.2.1 xp ((aut V.2.2.2.2 0 (-1) V.1.1 0).2) ) rfl rfl ⟨Nat.le_of_ble_eq_true rfl, Nat.le_of_ble_eq_true rfl⟩ ⟨Nat.le_of_ble_eq_true rfl, Nat.le_of_ble_eq_true rfl⟩ rfl rfl (Nat.le_of_ble_eq_true rfl) k_24 rfl rfl ⟨k_24, k_25, k_38, k_26, k_27, k_28, k_29, hR_40⟩ (rA_sub (by omega) (by omega)) (fun v_41 H_43 hv_41 f_42 => ?_)
    have k_44 := k_30.kept (fun q g1 g2 => f_42.2 q (by have := k_30.lt; omega) (rA_no (by omega)))
    have k_45 := k_31.kept (fun q g1 g2 => f_42.2 q (by have := k_31.lt; omega) (rA_no (by omega)))
    have k_46 := k_32.kept (fun q g1 g2 => f_42.2 q (by have := k_32.lt; omega) (rA_no (by omega)))
    have k_47 := k_33.kept (fun q g1 g2 => f_42.2 q (by have := k_33.lt; omega) (rA_no (by omega)))
    have k_48 := k_34.kept (fun q g1 g2 => f_42.2 q (by have := k_34.lt; omega) (rA_no (by omega)))
    have k_49 := k_35.kept (fun q g1 g2 => f_42.2 q (by have := k_35.lt; omega) (rA_no (by omega)))
    have k_50 := k_36.kept (fun q g1 g2 => f_42.2 q (by have := k_36.lt; omega) (rA_no (by omega)))
    have k_51 := k_37.kept (fun q g1 g2 => f_42.2 q (by have := k_37.lt; omega) (rA_no (by omega)))
    have k_52 := hT_39.kept (fun q g1 g2 => f_42.2 q (by have := hT_39.lt; omega) (rA_no (by omega)))
    rcases hv_41 with ⟨rfl, hp_53, t_o_54, t_n_55, t_R_56, t_w_57, t_k_58, t_s_59, t_h_60, t_r_61⟩ | ⟨rfl, hp_62, t_o_63, t_n_64, t_R_65, t_w_66, t_k_67, t_s_68, t_h_69, t_r_70⟩
    ·
      show X _ _ _ _ _ _ _ _ _ [zV 0] _
      refine x_if_eq (tgt := 53) ho d_MW_readRule_40 (by decide) (by omega) (fun _ => ?_) (fun c => absurd c (by decide))
      refine x_bipush (z := (-5)) ho d_MW_readRule_53 (by decide) ?_
      refine x_iret ho hr d_MW_readRule_55 ?_
      have e : m_readRule V = (-5, V) := by unfold m_readRule; rw [cif_f (fun q => q c_28), cif_t (hp_53)]
      exact ⟨by rw [e], by rw [e]; exact isW_mk t_o_54 t_n_55 t_R_56 t_w_57 t_k_58 t_s_59 t_h_60 k_52 t_r_61 k_44 k_45 k_46 k_47 k_48 k_49 k_50 k_51 a_g⟩
    ·
      show X _ _ _ _ _ _ _ _ _ [zV 1] _
      refine x_if_eq (tgt := 53) ho d_MW_readRule_40 (by decide) (by omega) (fun c => absurd c (by decide)) (fun _ => ?_)
      refine x_aload_n ho 1 d_MW_readRule_43 rfl ?_
      refine x_get 4 ho d_MW_readRule_44 cl_MW (by decide) g_246 t_o_63 rfl ?_
      refine x_callV (rest := []) ho d_MW_readRule_47 yv_TX_parts g_360 g_361 g_359 (c_TX_parts M.2.1 D (x + 105) V.2.2.2.2 ) rfl rfl ⟨Nat.le_of_ble_eq_true rfl, Nat.le_of_ble_eq_true rfl⟩ ⟨Nat.le_of_ble_eq_true rfl, Nat.le_of_ble_eq_true rfl⟩ rfl rfl (Nat.le_of_ble_eq_true rfl) k_52.1 rfl rfl k_52 fr_none' (x_rd (fun v_71 hv_71 => ?_))
      obtain ⟨rfl, hr_73⟩ := hv_71
      show X _ _ _ _ _ _ _ _ _ [zV (1 + cn V.2.2.2.2 59)] _
      refine x_goto (tgt := 55) ho d_MW_readRule_50 (by decide) ?_
      refine x_iret ho hr d_MW_readRule_55 ?_
      have e : m_readRule V = (1 + cn V.2.2.2.2 59, act ((aut V.2.2.2.2 0 (-1) V.1.1 0).2, V.1.2) V) := by unfold m_readRule; rw [cif_f (fun q => q c_28), cif_f (hp_62)]
      exact ⟨by rw [e], by rw [e]; exact isW_mk t_o_63 t_n_64 t_R_65 t_w_66 t_k_67 t_s_68 t_h_69 k_52 t_r_70 k_44 k_45 k_46 k_47 k_48 k_49 k_50 k_51 (gd_act a_g ⟨aut_gd _ _ _ _ _ (by omega) (fun i h0 h1 _ => a_g.1.1 i h0 h1) c_28, a_g.1.2⟩)⟩
  ·
    refine x_bipush (z := (-100)) ho d_MW_readRule_31 (by decide) ?_
    refine x_iload_n ho 0 d_MW_readRule_33 rfl ?_
    refine x_isub ho d_MW_readRule_34 ?_
    refine x_iret ho hr d_MW_readRule_35 ?_
    have e : m_readRule V = (-100 - (aut V.2.2.2.2 0 (-1) V.1.1 0).1, V) := by unfold m_readRule; rw [cif_t (c_28)]
    exact ⟨by rw [e], by rw [e]; exact isW_mk k_24 k_25 k_38 k_26 k_27 k_28 k_29 hT_39 hR_40 k_30 k_31 k_32 k_33 k_34 k_35 k_36 k_37 a_g⟩
def q_MW_square (D : GG) (x : Nat) (V : WV) : Option Value → Heap → Prop := fun v0 H => v0 = some (zV ((m_square V).1)) ∧ isW D H x ((m_square V).2)
theorem yv_MW_square : Yv y_MW_square b_MW_square 1 (Option.some FieldType.int) 0 := ⟨g_366, g_53, by decide, by decide +kernel⟩
set_option maxHeartbeats 4000000 in
set_option maxRecDepth 100000 in
theorem c_MW_square (l0 : Launch) (D : GG) (x : Nat) (V : WV)  : Ct l0 D y_MW_square b_MW_square 1 (Option.some FieldType.int) ({ frames := 6, cells := 0, slots := 0, locals := 166 } : Room) [.ref x] (fun H => isW D H x V) (rA x (x + 137)) 0 0 (q_MW_square D x V) := by
  refine Ct.of (L := [(0, .ref x)]) (by decide) (Nat.le_of_ble_eq_true rfl) rfl (fun M H ho hr hnm hH hpre => ?_)
  have hW := hpre
  obtain ⟨xpn, xp, xc, xW1, xW2, xW3, xt, xu, xfd, xg, xe1, xe2, xe3, xm1, xm2, xos, xN, xF, a_o, a_n, a_R, a_w, a_k, a_s, a_h, a_t, a_r, a_1, a_2, a_3, a_P, a_T, a_G, a_M, a_Z, a_g⟩ := id hW
  have w_b := a_w.b
  have w_w := a_w.w
  have k_b := a_k.b
  have t_b := a_t.b
  have h_b := a_h.b
  have g_1 := a_g.1.2
  have c_w := a_R.wc
  refine x_aload_n ho 0 d_MW_square_0 rfl ?_
  refine x_get 5 ho d_MW_square_1 cl_MW (by decide) g_247 a_o rfl ?_
  refine x_aload_n ho 0 d_MW_square_4 rfl ?_
  refine x_get 0 ho d_MW_square_5 cl_MW (by decide) g_242 a_o rfl ?_
  refine x_get 0 ho d_MW_square_8 cl_ST (by decide) g_122 a_n rfl ?_
  refine x_callV (rest := []) ho d_MW_square_11 yv_RU_becomeSquareOf g_368 g_369 g_367 (c_RU_becomeSquareOf M.2.1 D (x + 107) xp xc (x + 1 + 1) xpn V.1.1 (by omega)) rfl rfl ⟨Nat.le_of_ble_eq_true rfl, Nat.le_of_ble_eq_true rfl⟩ ⟨Nat.le_of_ble_eq_true rfl, Nat.le_of_ble_eq_true rfl⟩ rfl rfl (Nat.le_of_ble_eq_true rfl) a_r.1 rfl rfl ⟨a_r, a_R⟩ (rA_sub (by omega) (by omega)) (fun v_1 H_3 hv_1 f_2 => ?_)
  have k_4 := a_o.kept (f_2.2 _ a_o.lt (rA_no (by omega)))
  have k_5 := a_n.kept (f_2.2 _ a_n.lt (rA_no (by omega)))
  have k_6 := a_w.kept (fun q g1 g2 => f_2.2 q (by have := a_w.lt; omega) (rA_no (by omega)))
  have k_7 := a_k.kept (fun q g1 g2 => f_2.2 q (by have := a_k.lt; omega) (rA_no (by omega)))
  have k_8 := a_s.kept (fun q g1 g2 => f_2.2 q (by have := a_s.lt; omega) (rA_no (by omega)))
  have k_9 := a_h.kept (fun q g1 g2 => f_2.2 q (by have := a_h.lt; omega) (rA_no (by omega)))
  have k_10 := a_t.kept (fun q g1 g2 => f_2.2 q (by have := a_t.lt; omega) (rA_no (by omega)))
  have k_11 := a_1.kept (fun q g1 g2 => f_2.2 q (by have := a_1.lt; omega) (rA_no (by omega)))
  have k_12 := a_2.kept (fun q g1 g2 => f_2.2 q (by have := a_2.lt; omega) (rA_no (by omega)))
  have k_13 := a_3.kept (fun q g1 g2 => f_2.2 q (by have := a_3.lt; omega) (rA_no (by omega)))
  have k_14 := a_P.kept (fun q g1 g2 => f_2.2 q (by have := a_P.lt; omega) (rA_no (by omega)))
  have k_15 := a_T.kept (fun q g1 g2 => f_2.2 q (by have := a_T.lt; omega) (rA_no (by omega)))
  have k_16 := a_G.kept (fun q g1 g2 => f_2.2 q (by have := a_G.lt; omega) (rA_no (by omega)))
  have k_17 := a_M.kept (fun q g1 g2 => f_2.2 q (by have := a_M.lt; omega) (rA_no (by omega)))
  have k_18 := a_Z.kept (fun q g1 g2 => f_2.2 q (by have := a_Z.lt; omega) (rA_no (by omega)))
  rcases hv_1 with ⟨rfl, hle_19, hR_20, hS_21⟩ | ⟨g_22, rfl, hle_23, hR_24, hS_25⟩
  ·
    show X _ _ _ _ _ _ _ _ _ [zV 1] _
    refine x_if_ne (tgt := 20) ho d_MW_square_14 (by decide) (by omega) (fun _ => ?_) (fun c => absurd c (by decide))
    refine x_aload_n ho 0 d_MW_square_20 rfl ?_
    refine x_callV (rest := []) ho d_MW_square_21 yv_MW_takeNextRule g_328 g_2 g_327 (c_MW_takeNextRule M.2.1 D x V.2.2.1 xpn V.1.1 V.1.2.1 V.1.2.2 V.2.1 V.2.2.2.1 xp (fun i => imW V.1.1 (V.1.1 i)) ) rfl rfl ⟨Nat.le_of_ble_eq_true rfl, Nat.le_of_ble_eq_true rfl⟩ ⟨Nat.le_of_ble_eq_true rfl, Nat.le_of_ble_eq_true rfl⟩ rfl rfl (Nat.le_of_ble_eq_true rfl) k_4 rfl rfl ⟨k_4, k_5, hS_21, k_6, k_7, k_8, k_9, hR_20⟩ (rA_sub (by omega) (by omega)) (fun v_26 H_28 hv_26 f_27 => ?_)
    have k_29 := k_10.kept (fun q g1 g2 => f_27.2 q (by have := k_10.lt; omega) (rA_no (by omega)))
    have k_30 := k_11.kept (fun q g1 g2 => f_27.2 q (by have := k_11.lt; omega) (rA_no (by omega)))
    have k_31 := k_12.kept (fun q g1 g2 => f_27.2 q (by have := k_12.lt; omega) (rA_no (by omega)))
    have k_32 := k_13.kept (fun q g1 g2 => f_27.2 q (by have := k_13.lt; omega) (rA_no (by omega)))
    have k_33 := k_14.kept (fun q g1 g2 => f_27.2 q (by have := k_14.lt; omega) (rA_no (by omega)))
    have k_34 := k_15.kept (fun q g1 g2 => f_27.2 q (by have := k_15.lt; omega) (rA_no (by omega)))
    have k_35 := k_16.kept (fun q g1 g2 => f_27.2 q (by have := k_16.lt; omega) (rA_no (by omega)))
    have k_36 := k_17.kept (fun q g1 g2 => f_27.2 q (by have := k_17.lt; omega) (rA_no (by omega)))
    have k_37 := k_18.kept (fun q g1 g2 => f_27.2 q (by have := k_18.lt; omega) (rA_no (by omega)))
    rcases hv_26 with ⟨rfl, hp_38, t_o_39, t_n_40, t_R_41, t_w_42, t_k_43, t_s_44, t_h_45, t_r_46⟩ | ⟨rfl, hp_47, t_o_48, t_n_49, t_R_50, t_w_51, t_k_52, t_s_53, t_h_54, t_r_55⟩
    ·
      show X _ _ _ _ _ _ _ _ _ [zV 0] _
      refine x_if_eq (tgt := 40) ho d_MW_square_24 (by decide) (by omega) (fun _ => ?_) (fun c => absurd c (by decide))
      refine x_bipush (z := (-5)) ho d_MW_square_40 (by decide) ?_
      refine x_iret ho hr d_MW_square_42 ?_
      have e : m_square V = (-5, V) := by unfold m_square; rw [cif_t (hle_19), cif_t (hp_38)]
      exact ⟨by rw [e], by rw [e]; exact isW_mk t_o_39 t_n_40 t_R_41 t_w_42 t_k_43 t_s_44 t_h_45 k_29 t_r_46 k_30 k_31 k_32 k_33 k_34 k_35 k_36 k_37 a_g⟩
    ·
      show X _ _ _ _ _ _ _ _ _ [zV 1] _
      refine x_if_eq (tgt := 40) ho d_MW_square_24 (by decide) (by omega) (fun c => absurd c (by decide)) (fun _ => ?_)
      refine x_aload_n ho 0 d_MW_square_27 rfl ?_
      refine x_get 0 ho d_MW_square_28 cl_MW (by decide) g_242 t_o_48 rfl ?_
      refine x_get 0 ho d_MW_square_31 cl_ST (by decide) g_122 t_n_49 rfl ?_
      refine x_callV (rest := []) ho d_MW_square_34 yv_RU_total g_384 g_385 g_383 (c_RU_total M.2.1 D (x + 1 + 1) xpn (fun i => imW V.1.1 (V.1.1 i)) ) rfl rfl ⟨Nat.le_of_ble_eq_true rfl, Nat.le_of_ble_eq_true rfl⟩ ⟨Nat.le_of_ble_eq_true rfl, Nat.le_of_ble_eq_true rfl⟩ rfl rfl (Nat.le_of_ble_eq_true rfl) t_R_50.1 rfl rfl t_R_50 fr_none' (x_rd (fun v_56 hv_56 => ?_))
      obtain ⟨rfl, ht_58⟩ := hv_56
      show X _ _ _ _ _ _ _ _ _ [zV (tot (fun i => imW V.1.1 (V.1.1 i)))] _
      refine x_goto (tgt := 42) ho d_MW_square_37 (by decide) ?_
      refine x_iret ho hr d_MW_square_42 ?_
      have e : m_square V = (tot (fun i => imW V.1.1 (V.1.1 i)), act (fun i => imW V.1.1 (V.1.1 i), V.1.2) V) := by unfold m_square; rw [cif_t (hle_19), cif_f (hp_47)]
      exact ⟨by rw [e], by rw [e]; exact isW_mk t_o_48 t_n_49 t_R_50 t_w_51 t_k_52 t_s_53 t_h_54 k_29 t_r_55 k_30 k_31 k_32 k_33 k_34 k_35 k_36 k_37 (gd_act a_g ⟨fun i h0 h1 => imW_1 a_g.1.1 (c_w i h0 h1) (a_g.1.1 i h0 h1), a_g.1.2⟩)⟩
  ·
    show X _ _ _ _ _ _ _ _ _ [zV 0] _
    refine x_if_ne (tgt := 20) ho d_MW_square_14 (by decide) (by omega) (fun c => absurd c (by decide)) (fun _ => ?_)
    refine x_bipush (z := (-3)) ho d_MW_square_17 (by decide) ?_
    refine x_iret ho hr d_MW_square_19 ?_
    have e : m_square V = (-3, V) := by unfold m_square; rw [cif_f (hle_23)]
    exact ⟨by rw [e], by rw [e]; exact isW_mk k_4 k_5 hS_25 k_6 k_7 k_8 k_9 k_10 hR_24 k_11 k_12 k_13 k_14 k_15 k_16 k_17 k_18 a_g⟩
def q_MW_shift (D : GG) (x : Nat) (V : WV) (P : Prop) : Option Value → Heap → Prop := fun v0 H => v0 = some (zV ((m_shift P V).1)) ∧ isW D H x ((m_shift P V).2)
theorem yv_MW_shift : Yv y_MW_shift b_MW_shift 3 (Option.some FieldType.int) 1 := ⟨g_390, g_53, by decide, by decide +kernel⟩
set_option maxHeartbeats 4000000 in
set_option maxRecDepth 100000 in
theorem c_MW_shift (l0 : Launch) (D : GG) (x : Nat) (V : WV) (P : Prop)  : Ct l0 D y_MW_shift b_MW_shift 3 (Option.some FieldType.int) ({ frames := 6, cells := 0, slots := 0, locals := 166 } : Room) [.ref x, zV (bI P)] (fun H => isW D H x V) (rA x (x + 137)) 0 0 (q_MW_shift D x V P) := by
  refine Ct.of (L := [(0, .ref x), (1, zV (bI P))]) (by decide) (Nat.le_of_ble_eq_true rfl) rfl (fun M H ho hr hnm hH hpre => ?_)
  have hW := hpre
  obtain ⟨xpn, xp, xc, xW1, xW2, xW3, xt, xu, xfd, xg, xe1, xe2, xe3, xm1, xm2, xos, xN, xF, a_o, a_n, a_R, a_w, a_k, a_s, a_h, a_t, a_r, a_1, a_2, a_3, a_P, a_T, a_G, a_M, a_Z, a_g⟩ := id hW
  have w_b := a_w.b
  have w_w := a_w.w
  have k_b := a_k.b
  have t_b := a_t.b
  have h_b := a_h.b
  have g_1 := a_g.1.2
  have c_w := a_R.wc
  refine x_aload_n ho 0 d_MW_shift_0 rfl ?_
  refine x_get 0 ho d_MW_shift_1 cl_MW (by decide) g_242 a_o rfl ?_
  refine x_get 0 ho d_MW_shift_4 cl_ST (by decide) g_122 a_n rfl ?_
  refine x_iload_n ho 1 d_MW_shift_7 rfl ?_
  refine x_callV (rest := []) ho d_MW_shift_8 yv_RU_commonEnd g_392 g_393 g_391 (c_RU_commonEnd M.2.1 D (x + 1 + 1) xpn V.1.1 P ) rfl rfl ⟨Nat.le_of_ble_eq_true rfl, Nat.le_of_ble_eq_true rfl⟩ ⟨Nat.le_of_ble_eq_true rfl, Nat.le_of_ble_eq_true rfl⟩ rfl rfl (Nat.le_of_ble_eq_true rfl) a_R.1 rfl rfl a_R fr_none' (x_rd (fun v_1 hv_1 => ?_))
  obtain ⟨rfl, hr_3⟩ := hv_1
  show X _ _ _ _ _ _ _ _ _ [zV (comE P V.1.1)] _
  refine x_istore_n (L' := [(2, zV (comE P V.1.1)), (0, .ref x), (1, zV (bI P))]) ho d_MW_shift_11 (by decide) rfl ?_
  refine x_iload_n ho 0 d_MW_shift_12 rfl ?_
  refine x_iconst ho d_MW_shift_13 ?_
  refine x_icmp_ne (tgt := 20) ho d_MW_shift_14 (by decide) (by omega) (by omega) (fun c_14 => ?_) (fun c_14 => ?_)
  ·
    refine x_aload_n ho 1 d_MW_shift_20 rfl ?_
    refine x_get 5 ho d_MW_shift_21 cl_MW (by decide) g_247 a_o rfl ?_
    refine x_aload_n ho 1 d_MW_shift_24 rfl ?_
    refine x_get 0 ho d_MW_shift_25 cl_MW (by decide) g_242 a_o rfl ?_
    refine x_get 0 ho d_MW_shift_28 cl_ST (by decide) g_122 a_n rfl ?_
    refine x_callV (rest := []) ho d_MW_shift_31 yv_RU_become g_290 g_291 g_289 (c_RU_become M.2.1 D (x + 107) xp xc (x + 1 + 1) xpn V.1.1 (by omega)) rfl rfl ⟨Nat.le_of_ble_eq_true rfl, Nat.le_of_ble_eq_true rfl⟩ ⟨Nat.le_of_ble_eq_true rfl, Nat.le_of_ble_eq_true rfl⟩ rfl rfl (Nat.le_of_ble_eq_true rfl) a_r.1 rfl rfl ⟨a_r, a_R⟩ (rA_sub (by omega) (by omega)) (fun v_4 H_6 hv_4 f_5 => ?_)
    have k_7 := a_o.kept (f_5.2 _ a_o.lt (rA_no (by omega)))
    have k_8 := a_n.kept (f_5.2 _ a_n.lt (rA_no (by omega)))
    have k_9 := a_w.kept (fun q g1 g2 => f_5.2 q (by have := a_w.lt; omega) (rA_no (by omega)))
    have k_10 := a_k.kept (fun q g1 g2 => f_5.2 q (by have := a_k.lt; omega) (rA_no (by omega)))
    have k_11 := a_s.kept (fun q g1 g2 => f_5.2 q (by have := a_s.lt; omega) (rA_no (by omega)))
    have k_12 := a_h.kept (fun q g1 g2 => f_5.2 q (by have := a_h.lt; omega) (rA_no (by omega)))
    have k_13 := a_t.kept (fun q g1 g2 => f_5.2 q (by have := a_t.lt; omega) (rA_no (by omega)))
    have k_14 := a_1.kept (fun q g1 g2 => f_5.2 q (by have := a_1.lt; omega) (rA_no (by omega)))
    have k_15 := a_2.kept (fun q g1 g2 => f_5.2 q (by have := a_2.lt; omega) (rA_no (by omega)))
    have k_16 := a_3.kept (fun q g1 g2 => f_5.2 q (by have := a_3.lt; omega) (rA_no (by omega)))
    have k_17 := a_P.kept (fun q g1 g2 => f_5.2 q (by have := a_P.lt; omega) (rA_no (by omega)))
    have k_18 := a_T.kept (fun q g1 g2 => f_5.2 q (by have := a_T.lt; omega) (rA_no (by omega)))
    have k_19 := a_G.kept (fun q g1 g2 => f_5.2 q (by have := a_G.lt; omega) (rA_no (by omega)))
    have k_20 := a_M.kept (fun q g1 g2 => f_5.2 q (by have := a_M.lt; omega) (rA_no (by omega)))
    have k_21 := a_Z.kept (fun q g1 g2 => f_5.2 q (by have := a_Z.lt; omega) (rA_no (by omega)))
    obtain ⟨rfl, hR_22, hS_23⟩ := hv_4
    show X _ _ _ _ _ _ _ _ _ [] _
    refine x_aload_n ho 1 d_MW_shift_34 rfl ?_
    refine x_get 5 ho d_MW_shift_35 cl_MW (by decide) g_247 k_7 rfl ?_
    refine x_iload_n ho 2 d_MW_shift_38 rfl ?_
    refine x_callV (rest := []) ho d_MW_shift_39 yv_RU_rotate g_399 g_400 g_398 (c_RU_rotate M.2.1 D (x + 107) xp V.1.1 P ) rfl rfl ⟨Nat.le_of_ble_eq_true rfl, Nat.le_of_ble_eq_true rfl⟩ ⟨Nat.le_of_ble_eq_true rfl, Nat.le_of_ble_eq_true rfl⟩ rfl rfl (Nat.le_of_ble_eq_true rfl) hR_22.1 rfl rfl hR_22 (rA_sub (by omega) (by omega)) (fun v_24 H_26 hv_24 f_25 => ?_)
    have k_27 := k_7.kept (f_25.2 _ k_7.lt (rA_no (by omega)))
    have k_28 := k_8.kept (f_25.2 _ k_8.lt (rA_no (by omega)))
    have k_29 := k_9.kept (fun q g1 g2 => f_25.2 q (by have := k_9.lt; omega) (rA_no (by omega)))
    have k_30 := k_10.kept (fun q g1 g2 => f_25.2 q (by have := k_10.lt; omega) (rA_no (by omega)))
    have k_31 := k_11.kept (fun q g1 g2 => f_25.2 q (by have := k_11.lt; omega) (rA_no (by omega)))
    have k_32 := k_12.kept (fun q g1 g2 => f_25.2 q (by have := k_12.lt; omega) (rA_no (by omega)))
    have k_33 := k_13.kept (fun q g1 g2 => f_25.2 q (by have := k_13.lt; omega) (rA_no (by omega)))
    have k_34 := k_14.kept (fun q g1 g2 => f_25.2 q (by have := k_14.lt; omega) (rA_no (by omega)))
    have k_35 := k_15.kept (fun q g1 g2 => f_25.2 q (by have := k_15.lt; omega) (rA_no (by omega)))
    have k_36 := k_16.kept (fun q g1 g2 => f_25.2 q (by have := k_16.lt; omega) (rA_no (by omega)))
    have k_37 := k_17.kept (fun q g1 g2 => f_25.2 q (by have := k_17.lt; omega) (rA_no (by omega)))
    have k_38 := k_18.kept (fun q g1 g2 => f_25.2 q (by have := k_18.lt; omega) (rA_no (by omega)))
    have k_39 := k_19.kept (fun q g1 g2 => f_25.2 q (by have := k_19.lt; omega) (rA_no (by omega)))
    have k_40 := k_20.kept (fun q g1 g2 => f_25.2 q (by have := k_20.lt; omega) (rA_no (by omega)))
    have k_41 := k_21.kept (fun q g1 g2 => f_25.2 q (by have := k_21.lt; omega) (rA_no (by omega)))
    have k_42 := hS_23.kept (fun q g1 g2 => f_25.2 q (by have := hS_23.lt; omega) (rA_no (by omega)))
    obtain ⟨rfl, hR_43⟩ := hv_24
    show X _ _ _ _ _ _ _ _ _ [] _
    refine x_aload_n ho 1 d_MW_shift_42 rfl ?_
    refine x_callV (rest := []) ho d_MW_shift_43 yv_MW_takeNextRule g_328 g_2 g_327 (c_MW_takeNextRule M.2.1 D x V.2.2.1 xpn V.1.1 V.1.2.1 V.1.2.2 V.2.1 V.2.2.2.1 xp (fun i => rot P (V.1.1 i)) ) rfl rfl ⟨Nat.le_of_ble_eq_true rfl, Nat.le_of_ble_eq_true rfl⟩ ⟨Nat.le_of_ble_eq_true rfl, Nat.le_of_ble_eq_true rfl⟩ rfl rfl (Nat.le_of_ble_eq_true rfl) k_27 rfl rfl ⟨k_27, k_28, k_42, k_29, k_30, k_31, k_32, hR_43⟩ (rA_sub (by omega) (by omega)) (fun v_44 H_46 hv_44 f_45 => ?_)
    have k_47 := k_33.kept (fun q g1 g2 => f_45.2 q (by have := k_33.lt; omega) (rA_no (by omega)))
    have k_48 := k_34.kept (fun q g1 g2 => f_45.2 q (by have := k_34.lt; omega) (rA_no (by omega)))
    have k_49 := k_35.kept (fun q g1 g2 => f_45.2 q (by have := k_35.lt; omega) (rA_no (by omega)))
    have k_50 := k_36.kept (fun q g1 g2 => f_45.2 q (by have := k_36.lt; omega) (rA_no (by omega)))
    have k_51 := k_37.kept (fun q g1 g2 => f_45.2 q (by have := k_37.lt; omega) (rA_no (by omega)))
    have k_52 := k_38.kept (fun q g1 g2 => f_45.2 q (by have := k_38.lt; omega) (rA_no (by omega)))
    have k_53 := k_39.kept (fun q g1 g2 => f_45.2 q (by have := k_39.lt; omega) (rA_no (by omega)))
    have k_54 := k_40.kept (fun q g1 g2 => f_45.2 q (by have := k_40.lt; omega) (rA_no (by omega)))
    have k_55 := k_41.kept (fun q g1 g2 => f_45.2 q (by have := k_41.lt; omega) (rA_no (by omega)))
    rcases hv_44 with ⟨rfl, hp_56, t_o_57, t_n_58, t_R_59, t_w_60, t_k_61, t_s_62, t_h_63, t_r_64⟩ | ⟨rfl, hp_65, t_o_66, t_n_67, t_R_68, t_w_69, t_k_70, t_s_71, t_h_72, t_r_73⟩
    ·
      show X _ _ _ _ _ _ _ _ _ [zV 0] _
      refine x_if_eq (tgt := 53) ho d_MW_shift_46 (by decide) (by omega) (fun _ => ?_) (fun c => absurd c (by decide))
      refine x_bipush (z := (-5)) ho d_MW_shift_53 (by decide) ?_
      refine x_iret ho hr d_MW_shift_55 ?_
      have e : m_shift P V = (-5, V) := by unfold m_shift; rw [cif_f (c_14), cif_t (hp_56)]
      exact ⟨by rw [e], by rw [e]; exact isW_mk t_o_57 t_n_58 t_R_59 t_w_60 t_k_61 t_s_62 t_h_63 k_47 t_r_64 k_48 k_49 k_50 k_51 k_52 k_53 k_54 k_55 a_g⟩
    ·
      show X _ _ _ _ _ _ _ _ _ [zV 1] _
      refine x_if_eq (tgt := 53) ho d_MW_shift_46 (by decide) (by omega) (fun c => absurd c (by decide)) (fun _ => ?_)
      refine x_iload_n ho 0 d_MW_shift_49 rfl ?_
      refine x_goto (tgt := 55) ho d_MW_shift_50 (by decide) ?_
      refine x_iret ho hr d_MW_shift_55 ?_
      have e : m_shift P V = (comE P V.1.1, act (fun i => rot P (V.1.1 i), V.1.2) V) := by unfold m_shift; rw [cif_f (c_14), cif_f (hp_65)]
      exact ⟨by rw [e], by rw [e]; exact isW_mk t_o_66 t_n_67 t_R_68 t_w_69 t_k_70 t_s_71 t_h_72 k_47 t_r_73 k_48 k_49 k_50 k_51 k_52 k_53 k_54 k_55 (gd_act a_g ⟨fun i h0 h1 => by show 1 ≤ ((rot P (V.1.1 i)).length : Int); rw [rot_len]; exact a_g.1.1 i h0 h1, a_g.1.2⟩)⟩
  ·
    refine x_bipush (z := (-4)) ho d_MW_shift_17 (by decide) ?_
    refine x_iret ho hr d_MW_shift_19 ?_
    have e : m_shift P V = (-4, V) := by unfold m_shift; rw [cif_t (c_14)]
    exact ⟨by rw [e], by rw [e]; exact isW_mk a_o a_n a_R a_w a_k a_s a_h a_t a_r a_1 a_2 a_3 a_P a_T a_G a_M a_Z a_g⟩
def q_MW_count (D : GG) (x : Nat) (V : WV) (z1 : Int) : Option Value → Heap → Prop := fun v0 H => v0 = some (zV (r_count z1 V)) ∧ isW D H x V
theorem yv_MW_count : Yv y_MW_count b_MW_count 2 (Option.some FieldType.int) 1 := ⟨g_747, g_53, by decide, by decide +kernel⟩
set_option maxHeartbeats 4000000 in
set_option maxRecDepth 100000 in
theorem c_MW_count (l0 : Launch) (D : GG) (x : Nat) (V : WV) (z1 : Int) (hz1 : -2147483648 ≤ z1 ∧ z1 ≤ 2147483647) : Ct l0 D y_MW_count b_MW_count 2 (Option.some FieldType.int) ({ frames := 6, cells := 0, slots := 0, locals := 136 } : Room) [.ref x, zV z1] (fun H => isW D H x V) (rA x (x + 137)) 0 0 (q_MW_count D x V z1) := by
  refine Ct.of (L := [(0, .ref x), (1, zV z1)]) (by decide) (Nat.le_of_ble_eq_true rfl) rfl (fun M H ho hr hnm hH hpre => ?_)
  have hW := hpre
  obtain ⟨xpn, xp, xc, xW1, xW2, xW3, xt, xu, xfd, xg, xe1, xe2, xe3, xm1, xm2, xos, xN, xF, a_o, a_n, a_R, a_w, a_k, a_s, a_h, a_t, a_r, a_1, a_2, a_3, a_P, a_T, a_G, a_M, a_Z, a_g⟩ := id hW
  have w_b := a_w.b
  have w_w := a_w.w
  have k_b := a_k.b
  have t_b := a_t.b
  have h_b := a_h.b
  have g_1 := a_g.1.2
  have c_w := a_R.wc
  refine x_iload_n ho 1 d_MW_count_0 rfl ?_
  rcases (show (z1 < 0 ∨ 7 < z1) ∨ z1 = 0 ∨ z1 = 1 ∨ z1 = 2 ∨ z1 = 3 ∨ z1 = 4 ∨ z1 = 5 ∨ z1 = 6 ∨ z1 = 7 by omega) with sw_1 | sw_1 | sw_1 | sw_1 | sw_1 | sw_1 | sw_1 | sw_1 | sw_1
  ·
    refine x_tabOut (tgt := 123) ho d_MW_count_1 (by omega) sw_1 (by decide) ?_
    refine x_bipush (z := (-2)) ho d_MW_count_123 (by decide) ?_
    refine x_iret ho hr d_MW_count_125 ?_
    exact ⟨rI (by unfold r_count; rw [cif_f (by omega), cif_f (by omega), cif_f (by omega), cif_f (by omega), cif_f (by omega), cif_f (by omega), cif_f (by omega), cif_f (by omega)]), isW_mk a_o a_n a_R a_w a_k a_s a_h a_t a_r a_1 a_2 a_3 a_P a_T a_G a_M a_Z a_g⟩
  ·
    refine x_tabIn (tgt := 48) (off := 47) ho 0 d_MW_count_1 sw_1 (by decide) (by decide) rfl (by decide) ?_
    refine x_aload_n ho 0 d_MW_count_48 rfl ?_
    refine x_get 0 ho d_MW_count_49 cl_MW (by decide) g_242 a_o rfl ?_
    refine x_get 1 ho d_MW_count_52 cl_ST (by decide) g_124 a_n rfl ?_
    refine x_callV (rest := []) ho d_MW_count_55 yv_LE_length g_323 g_324 g_428 (c_LE_length M.2.1 D (x + 1 + 13) 300 V.1.2.1 ) rfl rfl ⟨Nat.le_of_ble_eq_true rfl, Nat.le_of_ble_eq_true rfl⟩ ⟨Nat.le_of_ble_eq_true rfl, Nat.le_of_ble_eq_true rfl⟩ rfl rfl (Nat.le_of_ble_eq_true rfl) a_w.1 rfl rfl a_w fr_none' (x_rd (fun v_1 hv_1 => ?_))
    obtain rfl := hv_1
    show X _ _ _ _ _ _ _ _ _ [zV ((V.1.2.1.length : Int))] _
    refine x_iret ho hr d_MW_count_58 ?_
    exact ⟨rI (by unfold r_count; rw [cif_t (by omega)]), isW_mk a_o a_n a_R a_w a_k a_s a_h a_t a_r a_1 a_2 a_3 a_P a_T a_G a_M a_Z a_g⟩
  ·
    refine x_tabIn (tgt := 59) (off := 58) ho 1 d_MW_count_1 sw_1 (by decide) (by decide) rfl (by decide) ?_
    refine x_aload_n ho 0 d_MW_count_59 rfl ?_
    refine x_get 0 ho d_MW_count_60 cl_MW (by decide) g_242 a_o rfl ?_
    refine x_get 1 ho d_MW_count_63 cl_ST (by decide) g_124 a_n rfl ?_
    refine x_callV (rest := []) ho d_MW_count_66 yv_LE_bits g_554 g_555 g_553 (c_LE_bits M.2.1 D (x + 1 + 13) 300 V.1.2.1 ) rfl rfl ⟨Nat.le_of_ble_eq_true rfl, Nat.le_of_ble_eq_true rfl⟩ ⟨Nat.le_of_ble_eq_true rfl, Nat.le_of_ble_eq_true rfl⟩ rfl rfl (Nat.le_of_ble_eq_true rfl) a_w.1 rfl rfl a_w fr_none' (x_rd (fun v_3 hv_3 => ?_))
    obtain ⟨rfl, hr_5⟩ := hv_3
    show X _ _ _ _ _ _ _ _ _ [zV (bitL V.1.2.1)] _
    refine x_iret ho hr d_MW_count_69 ?_
    exact ⟨rI (by unfold r_count; rw [cif_f (by omega), cif_t (by omega)]), isW_mk a_o a_n a_R a_w a_k a_s a_h a_t a_r a_1 a_2 a_3 a_P a_T a_G a_M a_Z a_g⟩
  ·
    refine x_tabIn (tgt := 70) (off := 69) ho 2 d_MW_count_1 sw_1 (by decide) (by decide) rfl (by decide) ?_
    refine x_aload_n ho 0 d_MW_count_70 rfl ?_
    refine x_get 0 ho d_MW_count_71 cl_MW (by decide) g_242 a_o rfl ?_
    refine x_get 2 ho d_MW_count_74 cl_ST (by decide) g_126 a_n rfl ?_
    refine x_callV (rest := []) ho d_MW_count_77 yv_LE_length g_323 g_324 g_428 (c_LE_length M.2.1 D (x + 1 + 15) 20 V.1.2.2 ) rfl rfl ⟨Nat.le_of_ble_eq_true rfl, Nat.le_of_ble_eq_true rfl⟩ ⟨Nat.le_of_ble_eq_true rfl, Nat.le_of_ble_eq_true rfl⟩ rfl rfl (Nat.le_of_ble_eq_true rfl) a_k.1 rfl rfl a_k fr_none' (x_rd (fun v_6 hv_6 => ?_))
    obtain rfl := hv_6
    show X _ _ _ _ _ _ _ _ _ [zV ((V.1.2.2.length : Int))] _
    refine x_iret ho hr d_MW_count_80 ?_
    exact ⟨rI (by unfold r_count; rw [cif_f (by omega), cif_f (by omega), cif_t (by omega)]), isW_mk a_o a_n a_R a_w a_k a_s a_h a_t a_r a_1 a_2 a_3 a_P a_T a_G a_M a_Z a_g⟩
  ·
    refine x_tabIn (tgt := 81) (off := 80) ho 3 d_MW_count_1 sw_1 (by decide) (by decide) rfl (by decide) ?_
    refine x_aload_n ho 0 d_MW_count_81 rfl ?_
    refine x_iload_n ho 1 d_MW_count_82 rfl ?_
    refine x_iconst ho d_MW_count_83 ?_
    refine x_icmp_ne (tgt := 91) ho d_MW_count_84 (by decide) (by omega) (by omega) (fun c_84 => ?_) (fun c_84 => ?_)
    ·
      refine x_iconst ho d_MW_count_91 ?_
      refine x_eqI (b := bI False) (by exact (bI_f (fun q => q)).symm) ?_
      refine x_callV (rest := []) ho d_MW_count_92 yv_MW_countReturns g_749 g_21 g_748 (c_MW_countReturns M.2.1 D x V False ) rfl rfl ⟨Nat.le_of_ble_eq_true rfl, Nat.le_of_ble_eq_true rfl⟩ ⟨Nat.le_of_ble_eq_true rfl, Nat.le_of_ble_eq_true rfl⟩ rfl rfl (Nat.le_of_ble_eq_true rfl) hW.o rfl rfl hW (rA_sub (by omega) (by omega)) (fun v_8 H_10 hv_8 f_9 => ?_)
      obtain ⟨rfl, hW_11⟩ := hv_8
      show X _ _ _ _ _ _ _ _ _ [zV (cif (0 < (V.1.2.2.length : Int)) (cif False (((fiW V).length : Int)) (((osW V).length : Int))) (-5))] _
      refine x_iret ho hr d_MW_count_95 ?_
      exact ⟨rI (by unfold r_count; rw [cif_f (show ¬ (z1 = 0) by omega), cif_f (show ¬ (z1 = 1) by omega), cif_f (show ¬ (z1 = 2) by omega), cif_t (show z1 = 3 by omega), cif_f (fun q : False => q)]), hW_11⟩
    ·
      omega
  ·
    refine x_tabIn (tgt := 81) (off := 80) ho 4 d_MW_count_1 sw_1 (by decide) (by decide) rfl (by decide) ?_
    refine x_aload_n ho 0 d_MW_count_81 rfl ?_
    refine x_iload_n ho 1 d_MW_count_82 rfl ?_
    refine x_iconst ho d_MW_count_83 ?_
    refine x_icmp_ne (tgt := 91) ho d_MW_count_84 (by decide) (by omega) (by omega) (fun c_84 => ?_) (fun c_84 => ?_)
    ·
      omega
    ·
      refine x_iconst ho d_MW_count_87 ?_
      refine x_eqI (b := bI True) (by exact (bI_t trivial).symm) ?_
      refine x_goto (tgt := 92) ho d_MW_count_88 (by decide) ?_
      refine x_callV (rest := []) ho d_MW_count_92 yv_MW_countReturns g_749 g_21 g_748 (c_MW_countReturns M.2.1 D x V True ) rfl rfl ⟨Nat.le_of_ble_eq_true rfl, Nat.le_of_ble_eq_true rfl⟩ ⟨Nat.le_of_ble_eq_true rfl, Nat.le_of_ble_eq_true rfl⟩ rfl rfl (Nat.le_of_ble_eq_true rfl) hW.o rfl rfl hW (rA_sub (by omega) (by omega)) (fun v_12 H_14 hv_12 f_13 => ?_)
      obtain ⟨rfl, hW_15⟩ := hv_12
      show X _ _ _ _ _ _ _ _ _ [zV (cif (0 < (V.1.2.2.length : Int)) (cif True (((fiW V).length : Int)) (((osW V).length : Int))) (-5))] _
      refine x_iret ho hr d_MW_count_95 ?_
      exact ⟨rI (by unfold r_count; rw [cif_f (show ¬ (z1 = 0) by omega), cif_f (show ¬ (z1 = 1) by omega), cif_f (show ¬ (z1 = 2) by omega), cif_f (show ¬ (z1 = 3) by omega), cif_t (show z1 = 4 by omega), cif_t trivial]), hW_15⟩
  ·
    refine x_tabIn (tgt := 96) (off := 95) ho 5 d_MW_count_1 sw_1 (by decide) (by decide) rfl (by decide) ?_
    refine x_aload_n ho 0 d_MW_count_96 rfl ?_
    refine x_get 0 ho d_MW_count_97 cl_MW (by decide) g_242 a_o rfl ?_
    refine x_get 0 ho d_MW_count_100 cl_ST (by decide) g_122 a_n rfl ?_
    refine x_callV (rest := []) ho d_MW_count_103 yv_RU_total g_384 g_385 g_383 (c_RU_total M.2.1 D (x + 1 + 1) xpn V.1.1 ) rfl rfl ⟨Nat.le_of_ble_eq_true rfl, Nat.le_of_ble_eq_true rfl⟩ ⟨Nat.le_of_ble_eq_true rfl, Nat.le_of_ble_eq_true rfl⟩ rfl rfl (Nat.le_of_ble_eq_true rfl) a_R.1 rfl rfl a_R fr_none' (x_rd (fun v_16 hv_16 => ?_))
    obtain ⟨rfl, ht_18⟩ := hv_16
    show X _ _ _ _ _ _ _ _ _ [zV (tot V.1.1)] _
    refine x_iret ho hr d_MW_count_106 ?_
    exact ⟨rI (by unfold r_count; rw [cif_f (by omega), cif_f (by omega), cif_f (by omega), cif_f (by omega), cif_f (by omega), cif_t (by omega)]), isW_mk a_o a_n a_R a_w a_k a_s a_h a_t a_r a_1 a_2 a_3 a_P a_T a_G a_M a_Z a_g⟩
  ·
    refine x_tabIn (tgt := 107) (off := 106) ho 6 d_MW_count_1 sw_1 (by decide) (by decide) rfl (by decide) ?_
    refine x_aload_n ho 0 d_MW_count_107 rfl ?_
    refine x_get 3 ho d_MW_count_108 cl_MW (by decide) g_245 a_o rfl ?_
    refine x_callV (rest := []) ho d_MW_count_111 yv_HI_held g_531 g_532 g_530 (c_HI_held M.2.1 D (x + 35) V.2.2.2.1 ) rfl rfl ⟨Nat.le_of_ble_eq_true rfl, Nat.le_of_ble_eq_true rfl⟩ ⟨Nat.le_of_ble_eq_true rfl, Nat.le_of_ble_eq_true rfl⟩ rfl rfl (Nat.le_of_ble_eq_true rfl) a_h.o rfl rfl a_h fr_none' (x_rd (fun v_19 hv_19 => ?_))
    obtain ⟨rfl, hn_21⟩ := hv_19
    show X _ _ _ _ _ _ _ _ _ [zV ((V.2.2.2.1.length : Int))] _
    refine x_iret ho hr d_MW_count_114 ?_
    exact ⟨rI (by unfold r_count; rw [cif_f (by omega), cif_f (by omega), cif_f (by omega), cif_f (by omega), cif_f (by omega), cif_f (by omega), cif_t (by omega)]), isW_mk a_o a_n a_R a_w a_k a_s a_h a_t a_r a_1 a_2 a_3 a_P a_T a_G a_M a_Z a_g⟩
  ·
    refine x_tabIn (tgt := 115) (off := 114) ho 7 d_MW_count_1 sw_1 (by decide) (by decide) rfl (by decide) ?_
    refine x_aload_n ho 0 d_MW_count_115 rfl ?_
    refine x_get 4 ho d_MW_count_116 cl_MW (by decide) g_246 a_o rfl ?_
    refine x_callV (rest := []) ho d_MW_count_119 yv_TX_length g_511 g_512 g_510 (c_TX_length M.2.1 D (x + 105) V.2.2.2.2 ) rfl rfl ⟨Nat.le_of_ble_eq_true rfl, Nat.le_of_ble_eq_true rfl⟩ ⟨Nat.le_of_ble_eq_true rfl, Nat.le_of_ble_eq_true rfl⟩ rfl rfl (Nat.le_of_ble_eq_true rfl) a_t.1 rfl rfl a_t fr_none' (x_rd (fun v_22 hv_22 => ?_))
    obtain ⟨rfl, hb_24⟩ := hv_22
    show X _ _ _ _ _ _ _ _ _ [zV ((V.2.2.2.2.length : Int))] _
    refine x_iret ho hr d_MW_count_122 ?_
    exact ⟨rI (by unfold r_count; rw [cif_f (by omega), cif_f (by omega), cif_f (by omega), cif_f (by omega), cif_f (by omega), cif_f (by omega), cif_f (by omega), cif_t (by omega)]), isW_mk a_o a_n a_R a_w a_k a_s a_h a_t a_r a_1 a_2 a_3 a_P a_T a_G a_M a_Z a_g⟩
