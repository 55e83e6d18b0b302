def q_MW_takeNextRule (D : GG) (x : Nat) (k : Int) (pn : Int → Nat) (c0 : Int → List Int) (w : List Int) (pk : List Int) (s : SV) (l : List SV) (p : Int → Nat) (c : Int → List Int) : Option Value → Heap → Prop := fun v0 H => (v0 = some (zV 0) ∧ same4 c c0 ∧ At D H x (oO 10 [.ref (x + 1), .ref (x + 18), zV k, .ref (x + 35), .ref (x + 105), .ref (x + 107), .ref (x + 119), .ref (x + 121), .ref (x + 123), .ref (x + 125), .ref (x + 128), .ref (x + 130), .ref (x + 131), .ref (x + 132)]) ∧ At D H (x + 1) (oO 8 [.ref (x + 1 + 1), .ref (x + 1 + 13), .ref (x + 1 + 15)]) ∧ isR D H (x + 1 + 1) pn c0 ∧ isL D H (x + 1 + 13) 300 w ∧ isL D H (x + 1 + 15) 20 pk ∧ isS D H (x + 18) s ∧ isHL D H (x + 35) l ∧ isR D H (x + 107) p c) ∨ (v0 = some (zV 1) ∧ ¬ same4 c c0 ∧ At D H x (oO 10 [.ref (x + 1), .ref (x + 18), zV k, .ref (x + 35), .ref (x + 105), .ref (x + 107), .ref (x + 119), .ref (x + 121), .ref (x + 123), .ref (x + 125), .ref (x + 128), .ref (x + 130), .ref (x + 131), .ref (x + 132)]) ∧ At D H (x + 1) (oO 8 [.ref (x + 1 + 1), .ref (x + 1 + 13), .ref (x + 1 + 15)]) ∧ isR D H (x + 1 + 1) pn c ∧ isL D H (x + 1 + 13) 300 w ∧ isL D H (x + 1 + 15) 20 pk ∧ isS D H (x + 18) s ∧ isHL D H (x + 35) (recH l (c0, w, pk)) ∧ isR D H (x + 107) p c)
theorem yv_MW_takeNextRule : Yv y_MW_takeNextRule b_MW_takeNextRule 1 (Option.some FieldType.boolean) 0 := ⟨g_329, g_53, by decide, by decide +kernel⟩
set_option maxHeartbeats 4000000 in
set_option maxRecDepth 100000 in
theorem c_MW_takeNextRule (l0 : Launch) (D : GG) (x : Nat) (k : Int) (pn : Int → Nat) (c0 : Int → List Int) (w : List Int) (pk : List Int) (s : SV) (l : List SV) (p : Int → Nat) (c : Int → List Int)  : Ct l0 D y_MW_takeNextRule b_MW_takeNextRule 1 (Option.some FieldType.boolean) ({ frames := 5, cells := 0, slots := 0, locals := 146 } : Room) [.ref x] (fun H => At D H x (oO 10 [.ref (x + 1), .ref (x + 18), zV k, .ref (x + 35), .ref (x + 105), .ref (x + 107), .ref (x + 119), .ref (x + 121), .ref (x + 123), .ref (x + 125), .ref (x + 128), .ref (x + 130), .ref (x + 131), .ref (x + 132)]) ∧ At D H (x + 1) (oO 8 [.ref (x + 1 + 1), .ref (x + 1 + 13), .ref (x + 1 + 15)]) ∧ isR D H (x + 1 + 1) pn c0 ∧ isL D H (x + 1 + 13) 300 w ∧ isL D H (x + 1 + 15) 20 pk ∧ isS D H (x + 18) s ∧ isHL D H (x + 35) l ∧ isR D H (x + 107) p c) (rA (x + 1) (x + 105)) 0 0 (q_MW_takeNextRule D x k pn c0 w pk s l p c) := by
  refine Ct.of (L := [(0, .ref x)]) (by decide) (Nat.le_of_ble_eq_true rfl) rfl (fun M H ho hr hnm hH hpre => ?_)
  obtain ⟨t_o, t_n, t_R, t_w, t_k, t_s, t_h, t_r⟩ := hpre
  refine x_aload_n ho 0 d_MW_takeNextRule_0 rfl ?_
  refine x_get 5 ho d_MW_takeNextRule_1 cl_MW (by decide) g_247 t_o rfl ?_
  refine x_aload_n ho 0 d_MW_takeNextRule_4 rfl ?_
  refine x_get 0 ho d_MW_takeNextRule_5 cl_MW (by decide) g_242 t_o rfl ?_
  refine x_get 0 ho d_MW_takeNextRule_8 cl_ST (by decide) g_122 t_n rfl ?_
  refine x_callV (rest := []) ho d_MW_takeNextRule_11 yv_RU_same g_331 g_332 g_330 (c_RU_same M.2.1 D (x + 107) p c (x + 1 + 1) pn c0 ) rfl rfl ⟨Nat.le_of_ble_eq_true rfl, Nat.le_of_ble_eq_true rfl⟩ ⟨Nat.le_of_ble_eq_true rfl, Nat.le_of_ble_eq_true rfl⟩ rfl rfl (Nat.le_of_ble_eq_true rfl) t_r.1 rfl rfl ⟨t_r, t_R⟩ fr_none' (x_rd (fun v_1 hv_1 => ?_))
  obtain rfl := hv_1
  show X _ _ _ _ _ _ _ _ _ [zV (bI (∀ j : Int, 0 ≤ j → j < 4 → c j = c0 j))] _
  refine x_if_eqB (tgt := 19) ho d_MW_takeNextRule_14 (by decide) (fun c_14 => ?_) (fun c_14 => ?_)
  ·
    refine x_aload_n ho 0 d_MW_takeNextRule_19 rfl ?_
    refine x_get 3 ho d_MW_takeNextRule_20 cl_MW (by decide) g_245 t_o rfl ?_
    refine x_aload_n ho 0 d_MW_takeNextRule_23 rfl ?_
    refine x_get 0 ho d_MW_takeNextRule_24 cl_MW (by decide) g_242 t_o rfl ?_
    have hS_3 : isS D H (x + 1) (c0, w, pk) := ⟨t_n, ⟨_, t_R⟩, t_w, t_k⟩
    refine x_callV (rest := []) ho d_MW_takeNextRule_27 yv_HI_record g_347 g_348 g_346 (c_HI_record M.2.1 D (x + 35) l (x + 1) (c0, w, pk) (show (x + 35) + 70 ≤ (x + 1) ∨ (x + 1) + 17 ≤ (x + 35) by omega)) rfl rfl ⟨Nat.le_of_ble_eq_true rfl, Nat.le_of_ble_eq_true rfl⟩ ⟨Nat.le_of_ble_eq_true rfl, Nat.le_of_ble_eq_true rfl⟩ rfl rfl (Nat.le_of_ble_eq_true rfl) t_h.o rfl rfl ⟨t_h, hS_3⟩ (rA_sub (by omega) (by omega)) (fun v_4 H_6 hv_4 f_5 => ?_)
    have k_7 := t_o.kept (f_5.2 _ t_o.lt (rA_no (by omega)))
    have k_8 := t_n.kept (f_5.2 _ t_n.lt (rA_no (by omega)))
    have k_9 := t_R.kept (fun q g1 g2 => f_5.2 q (by have := t_R.lt; omega) (rA_no (by omega)))
    have k_10 := t_w.kept (fun q g1 g2 => f_5.2 q (by have := t_w.lt; omega) (rA_no (by omega)))
    have k_11 := t_k.kept (fun q g1 g2 => f_5.2 q (by have := t_k.lt; omega) (rA_no (by omega)))
    have k_12 := t_s.kept (fun q g1 g2 => f_5.2 q (by have := t_s.lt; omega) (rA_no (by omega)))
    have k_13 := t_r.kept (fun q g1 g2 => f_5.2 q (by have := t_r.lt; omega) (rA_no (by omega)))
    obtain ⟨rfl, hX_14, hS_15⟩ := hv_4
    show X _ _ _ _ _ _ _ _ _ [] _
    refine x_aload_n ho 0 d_MW_takeNextRule_30 rfl ?_
    refine x_get 0 ho d_MW_takeNextRule_31 cl_MW (by decide) g_242 k_7 rfl ?_
    refine x_get 0 ho d_MW_takeNextRule_34 cl_ST (by decide) g_122 k_8 rfl ?_
    refine x_aload_n ho 0 d_MW_takeNextRule_37 rfl ?_
    refine x_get 5 ho d_MW_takeNextRule_38 cl_MW (by decide) g_247 k_7 rfl ?_
    refine x_callV (rest := []) ho d_MW_takeNextRule_41 yv_RU_become g_290 g_291 g_289 (c_RU_become M.2.1 D (x + 1 + 1) pn c0 (x + 107) p c (by omega)) rfl rfl ⟨Nat.le_of_ble_eq_true rfl, Nat.le_of_ble_eq_true rfl⟩ ⟨Nat.le_of_ble_eq_true rfl, Nat.le_of_ble_eq_true rfl⟩ rfl rfl (Nat.le_of_ble_eq_true rfl) k_9.1 rfl rfl ⟨k_9, k_13⟩ (rA_sub (by omega) (by omega)) (fun v_16 H_18 hv_16 f_17 => ?_)
    have k_19 := k_7.kept (f_17.2 _ k_7.lt (rA_no (by omega)))
    have k_20 := k_8.kept (f_17.2 _ k_8.lt (rA_no (by omega)))
    have k_21 := k_10.kept (fun q g1 g2 => f_17.2 q (by have := k_10.lt; omega) (rA_no (by omega)))
    have k_22 := k_11.kept (fun q g1 g2 => f_17.2 q (by have := k_11.lt; omega) (rA_no (by omega)))
    have k_23 := k_12.kept (fun q g1 g2 => f_17.2 q (by have := k_12.lt; omega) (rA_no (by omega)))
    have k_24 := hX_14.kept (fun q g1 g2 => f_17.2 q (by have := hX_14.lt; omega) (rA_no (by omega)))
    obtain ⟨rfl, hR_25, hS_26⟩ := hv_16
    show X _ _ _ _ _ _ _ _ _ [] _
    refine x_iconst ho d_MW_takeNextRule_44 ?_
    refine x_zret ho hr (Or.inr rfl) d_MW_takeNextRule_45 ?_
    exact Or.inr ⟨rfl, c_14, k_19, k_20, hR_25, k_21, k_22, k_23, k_24, hS_26⟩
  ·
    refine x_iconst ho d_MW_takeNextRule_17 ?_
    refine x_zret ho hr (Or.inl rfl) d_MW_takeNextRule_18 ?_
    exact Or.inl ⟨rfl, c_14, t_o, t_n, t_R, t_w, t_k, t_s, t_h, t_r⟩
def q_MW_takeNextWord (D : GG) (x : Nat) (k : Int) (pn : Int → Nat) (c0 : Int → List Int) (w : List Int) (pk : List Int) (s : SV) (l : List SV) (W : List Int) : Option Value → Heap → Prop := fun v0 H => (v0 = some (zV 0) ∧ W = w ∧ At D H x (oO 10 [.ref (x + 1), .ref (x + 18), zV k, .ref (x + 35), .ref (x + 105), .ref (x + 107), .ref (x + 119), .ref (x + 121), .ref (x + 123), .ref (x + 125), .ref (x + 128), .ref (x + 130), .ref (x + 131), .ref (x + 132)]) ∧ At D H (x + 1) (oO 8 [.ref (x + 1 + 1), .ref (x + 1 + 13), .ref (x + 1 + 15)]) ∧ isR D H (x + 1 + 1) pn c0 ∧ isL D H (x + 1 + 13) 300 w ∧ isL D H (x + 1 + 15) 20 pk ∧ isS D H (x + 18) s ∧ isHL D H (x + 35) l ∧ isL D H (x + 119) 300 W) ∨ (v0 = some (zV 1) ∧ ¬ W = w ∧ At D H x (oO 10 [.ref (x + 1), .ref (x + 18), zV k, .ref (x + 35), .ref (x + 105), .ref (x + 107), .ref (x + 119), .ref (x + 121), .ref (x + 123), .ref (x + 125), .ref (x + 128), .ref (x + 130), .ref (x + 131), .ref (x + 132)]) ∧ At D H (x + 1) (oO 8 [.ref (x + 1 + 1), .ref (x + 1 + 13), .ref (x + 1 + 15)]) ∧ isR D H (x + 1 + 1) pn c0 ∧ isL D H (x + 1 + 13) 300 W ∧ isL D H (x + 1 + 15) 20 pk ∧ isS D H (x + 18) s ∧ isHL D H (x + 35) (recH l (c0, w, pk)) ∧ isL D H (x + 119) 300 W)
theorem yv_MW_takeNextWord : Yv y_MW_takeNextWord b_MW_takeNextWord 1 (Option.some FieldType.boolean) 0 := ⟨g_433, g_53, by decide, by decide +kernel⟩
set_option maxHeartbeats 4000000 in
set_option maxRecDepth 100000 in
theorem c_MW_takeNextWord (l0 : Launch) (D : GG) (x : Nat) (k : Int) (pn : Int → Nat) (c0 : Int → List Int) (w : List Int) (pk : List Int) (s : SV) (l : List SV) (W : List Int)  : Ct l0 D y_MW_takeNextWord b_MW_takeNextWord 1 (Option.some FieldType.boolean) ({ frames := 5, cells := 0, slots := 0, locals := 146 } : Room) [.ref x] (fun H => At D H x (oO 10 [.ref (x + 1), .ref (x + 18), zV k, .ref (x + 35), .ref (x + 105), .ref (x + 107), .ref (x + 119), .ref (x + 121), .ref (x + 123), .ref (x + 125), .ref (x + 128), .ref (x + 130), .ref (x + 131), .ref (x + 132)]) ∧ At D H (x + 1) (oO 8 [.ref (x + 1 + 1), .ref (x + 1 + 13), .ref (x + 1 + 15)]) ∧ isR D H (x + 1 + 1) pn c0 ∧ isL D H (x + 1 + 13) 300 w ∧ isL D H (x + 1 + 15) 20 pk ∧ isS D H (x + 18) s ∧ isHL D H (x + 35) l ∧ isL D H (x + 119) 300 W) (rA (x + 1) (x + 105)) 0 0 (q_MW_takeNextWord D x k pn c0 w pk s l W) := by
  refine Ct.of (L := [(0, .ref x)]) (by decide) (Nat.le_of_ble_eq_true rfl) rfl (fun M H ho hr hnm hH hpre => ?_)
  obtain ⟨t_o, t_n, t_R, t_w, t_k, t_s, t_h, t_1⟩ := hpre
  have w_n := t_1.b
  refine x_aload_n ho 0 d_MW_takeNextWord_0 rfl ?_
  refine x_get 6 ho d_MW_takeNextWord_1 cl_MW (by decide) g_248 t_o rfl ?_
  refine x_aload_n ho 0 d_MW_takeNextWord_4 rfl ?_
  refine x_get 0 ho d_MW_takeNextWord_5 cl_MW (by decide) g_242 t_o rfl ?_
  refine x_get 1 ho d_MW_takeNextWord_8 cl_ST (by decide) g_124 t_n rfl ?_
  refine x_callV (rest := []) ho d_MW_takeNextWord_11 yv_LE_same g_335 g_336 g_434 (c_LE_same M.2.1 D (x + 119) 300 W (x + 1 + 13) 300 w ) rfl rfl ⟨Nat.le_of_ble_eq_true rfl, Nat.le_of_ble_eq_true rfl⟩ ⟨Nat.le_of_ble_eq_true rfl, Nat.le_of_ble_eq_true rfl⟩ rfl rfl (Nat.le_of_ble_eq_true rfl) t_1.1 rfl rfl ⟨t_1, t_w⟩ fr_none' (x_rd (fun v_1 hv_1 => ?_))
  obtain rfl := hv_1
  show X _ _ _ _ _ _ _ _ _ [zV (bI (W = w))] _
  refine x_if_eqB (tgt := 19) ho d_MW_takeNextWord_14 (by decide) (fun c_14 => ?_) (fun c_14 => ?_)
  ·
    refine x_aload_n ho 0 d_MW_takeNextWord_19 rfl ?_
    refine x_get 3 ho d_MW_takeNextWord_20 cl_MW (by decide) g_245 t_o rfl ?_
    refine x_aload_n ho 0 d_MW_takeNextWord_23 rfl ?_
    refine x_get 0 ho d_MW_takeNextWord_24 cl_MW (by decide) g_242 t_o rfl ?_
    have hS_3 : isS D H (x + 1) (c0, w, pk) := ⟨t_n, ⟨_, t_R⟩, t_w, t_k⟩
    refine x_callV (rest := []) ho d_MW_takeNextWord_27 yv_HI_record g_347 g_348 g_346 (c_HI_record M.2.1 D (x + 35) l (x + 1) (c0, w, pk) (show (x + 35) + 70 ≤ (x + 1) ∨ (x + 1) + 17 ≤ (x + 35) by omega)) rfl rfl ⟨Nat.le_of_ble_eq_true rfl, Nat.le_of_ble_eq_true rfl⟩ ⟨Nat.le_of_ble_eq_true rfl, Nat.le_of_ble_eq_true rfl⟩ rfl rfl (Nat.le_of_ble_eq_true rfl) t_h.o rfl rfl ⟨t_h, hS_3⟩ (rA_sub (by omega) (by omega)) (fun v_4 H_6 hv_4 f_5 => ?_)
    have k_7 := t_o.kept (f_5.2 _ t_o.lt (rA_no (by omega)))
    have k_8 := t_n.kept (f_5.2 _ t_n.lt (rA_no (by omega)))
    have k_9 := t_R.kept (fun q g1 g2 => f_5.2 q (by have := t_R.lt; omega) (rA_no (by omega)))
    have k_10 := t_w.kept (fun q g1 g2 => f_5.2 q (by have := t_w.lt; omega) (rA_no (by omega)))
    have k_11 := t_k.kept (fun q g1 g2 => f_5.2 q (by have := t_k.lt; omega) (rA_no (by omega)))
    have k_12 := t_s.kept (fun q g1 g2 => f_5.2 q (by have := t_s.lt; omega) (rA_no (by omega)))
    have k_13 := t_1.kept (fun q g1 g2 => f_5.2 q (by have := t_1.lt; omega) (rA_no (by omega)))
    obtain ⟨rfl, hX_14, hS_15⟩ := hv_4
    show X _ _ _ _ _ _ _ _ _ [] _
    refine x_aload_n ho 0 d_MW_takeNextWord_30 rfl ?_
    refine x_get 0 ho d_MW_takeNextWord_31 cl_MW (by decide) g_242 k_7 rfl ?_
    refine x_get 1 ho d_MW_takeNextWord_34 cl_ST (by decide) g_124 k_8 rfl ?_
    refine x_aload_n ho 0 d_MW_takeNextWord_37 rfl ?_
    refine x_get 6 ho d_MW_takeNextWord_38 cl_MW (by decide) g_248 k_7 rfl ?_
    refine x_callV (rest := []) ho d_MW_takeNextWord_41 yv_LE_become g_298 g_299 g_435 (c_LE_become M.2.1 D (x + 1 + 13) 300 w (x + 119) 300 W (by omega) (by omega)) rfl rfl ⟨Nat.le_of_ble_eq_true rfl, Nat.le_of_ble_eq_true rfl⟩ ⟨Nat.le_of_ble_eq_true rfl, Nat.le_of_ble_eq_true rfl⟩ rfl rfl (Nat.le_of_ble_eq_true rfl) k_10.1 rfl rfl ⟨k_10, k_13⟩ (rA_sub (by omega) (by omega)) (fun v_16 H_18 hv_16 f_17 => ?_)
    have k_19 := k_7.kept (f_17.2 _ k_7.lt (rA_no (by omega)))
    have k_20 := k_8.kept (f_17.2 _ k_8.lt (rA_no (by omega)))
    have k_21 := k_9.kept (fun q g1 g2 => f_17.2 q (by have := k_9.lt; omega) (rA_no (by omega)))
    have k_22 := k_11.kept (fun q g1 g2 => f_17.2 q (by have := k_11.lt; omega) (rA_no (by omega)))
    have k_23 := k_12.kept (fun q g1 g2 => f_17.2 q (by have := k_12.lt; omega) (rA_no (by omega)))
    have k_24 := hX_14.kept (fun q g1 g2 => f_17.2 q (by have := hX_14.lt; omega) (rA_no (by omega)))
    obtain ⟨rfl, hL_25, hK_26⟩ := hv_16
    show X _ _ _ _ _ _ _ _ _ [] _
    refine x_iconst ho d_MW_takeNextWord_44 ?_
    refine x_zret ho hr (Or.inr rfl) d_MW_takeNextWord_45 ?_
    exact Or.inr ⟨rfl, c_14, k_19, k_20, k_21, hL_25, k_22, k_23, k_24, hK_26⟩
  ·
    refine x_iconst ho d_MW_takeNextWord_17 ?_
    refine x_zret ho hr (Or.inl rfl) d_MW_takeNextWord_18 ?_
    exact Or.inl ⟨rfl, c_14, t_o, t_n, t_R, t_w, t_k, t_s, t_h, t_1⟩
def q_MW_at (D : GG) (x : Nat) (V : WV) (z1 : Int) : Option Value → Heap → Prop := fun v0 H => v0 = some (zV (r_at z1 V)) ∧ isW D H x V
theorem yv_MW_at : Yv y_MW_at b_MW_at 3 (Option.some FieldType.int) 1 := ⟨g_610, g_53, by decide, by decide +kernel⟩
set_option maxHeartbeats 4000000 in
set_option maxRecDepth 100000 in
theorem c_MW_at (l0 : Launch) (D : GG) (x : Nat) (V : WV) (z1 : Int) (hz1 : -2147483648 ≤ z1 ∧ z1 ≤ 2147483647) : Ct l0 D y_MW_at b_MW_at 3 (Option.some FieldType.int) ({ frames := 1, cells := 0, slots := 0, locals := 21 } : Room) [.ref x, zV z1] (fun H => isW D H x V) (rA x (x + 137)) 0 0 (q_MW_at D x V z1) := by
  refine Ct.of (L := [(0, .ref x), (1, zV z1)]) (by decide) (Nat.le_of_ble_eq_true rfl) rfl (fun M H ho hr hnm hH hpre => ?_)
  have hW := hpre
  obtain ⟨xpn, xp, xc, xW1, xW2, xW3, xt, xu, xfd, xg, xe1, xe2, xe3, xm1, xm2, xos, xN, xF, a_o, a_n, a_R, a_w, a_k, a_s, a_h, a_t, a_r, a_1, a_2, a_3, a_P, a_T, a_G, a_M, a_Z, a_g⟩ := id hW
  have w_b := a_w.b
  have w_w := a_w.w
  have k_b := a_k.b
  have t_b := a_t.b
  have h_b := a_h.b
  have g_1 := a_g.1.2
  have c_w := a_R.wc
  refine x_aload_n ho 0 d_MW_at_0 rfl ?_
  refine x_get 0 ho d_MW_at_1 cl_MW (by decide) g_242 a_o rfl ?_
  refine x_get 1 ho d_MW_at_4 cl_ST (by decide) g_124 a_n rfl ?_
  refine x_iload_n ho 1 d_MW_at_7 rfl ?_
  refine x_callV (rest := []) ho d_MW_at_8 yv_LE_letterAt g_343 g_344 g_548 (c_LE_letterAt M.2.1 D (x + 1 + 13) 300 V.1.2.1 z1 (by omega)) rfl rfl ⟨Nat.le_of_ble_eq_true rfl, Nat.le_of_ble_eq_true rfl⟩ ⟨Nat.le_of_ble_eq_true rfl, Nat.le_of_ble_eq_true rfl⟩ rfl rfl (Nat.le_of_ble_eq_true rfl) a_w.1 rfl rfl a_w fr_none' (x_rd (fun v_1 hv_1 => ?_))
  obtain ⟨rfl, hr_3⟩ := hv_1
  show X _ _ _ _ _ _ _ _ _ [zV (lat V.1.2.1 z1)] _
  refine x_istore_n (L' := [(2, zV (lat V.1.2.1 z1)), (0, .ref x), (1, zV z1)]) ho d_MW_at_11 (by decide) rfl ?_
  refine x_iload_n ho 0 d_MW_at_12 rfl ?_
  refine x_iconst ho d_MW_at_13 ?_
  refine x_icmp_ne (tgt := 21) ho d_MW_at_14 (by decide) (by omega) (by omega) (fun c_14 => ?_) (fun c_14 => ?_)
  ·
    refine x_iload_n ho 0 d_MW_at_21 rfl ?_
    refine x_iret ho hr d_MW_at_22 ?_
    exact ⟨rfl, isW_mk a_o a_n a_R a_w a_k a_s a_h a_t a_r a_1 a_2 a_3 a_P a_T a_G a_M a_Z a_g⟩
  ·
    refine x_iconst ho d_MW_at_17 ?_
    refine x_goto (tgt := 22) ho d_MW_at_18 (by decide) ?_
    refine x_iret ho hr d_MW_at_22 ?_
    exact ⟨rI (by unfold r_at; omega), isW_mk a_o a_n a_R a_w a_k a_s a_h a_t a_r a_1 a_2 a_3 a_P a_T a_G a_M a_Z a_g⟩
def q_MW_commonDivisor (D : GG) (a : Int) (b : Int) : Option Value → Heap → Prop := fun v0 H => v0 = some (zV (dv a b)) ∧ (1 ≤ dv a b ∧ dv a b ≤ 300)
theorem yv_MW_commonDivisor : Yv y_MW_commonDivisor b_MW_commonDivisor 6 (Option.some FieldType.int) 2 := ⟨g_663, g_53, by decide, by decide +kernel⟩
set_option maxHeartbeats 4000000 in
set_option maxRecDepth 100000 in
theorem c_MW_commonDivisor (l0 : Launch) (D : GG) (a : Int) (b : Int) (ha : 0 ≤ a ∧ a ≤ 300) (hb : 1 ≤ b ∧ b ≤ 300) : Ct l0 D y_MW_commonDivisor b_MW_commonDivisor 6 (Option.some FieldType.int) ({ frames := 1, cells := 0, slots := 0, locals := 21 } : Room) [zV a, zV b] (fun H => True) nA 0 0 (q_MW_commonDivisor D a b) := by
  refine Ct.of (L := [(0, zV a), (1, zV b)]) (by decide) (Nat.le_of_ble_eq_true rfl) rfl (fun M H ho hr hnm hH hpre => ?_)
  have hdv := dv_1 (a := a) hb.1
  refine x_iload_n ho 0 d_MW_commonDivisor_0 rfl ?_
  refine x_istore_n (L' := [(2, zV a), (0, zV a), (1, zV b)]) ho d_MW_commonDivisor_1 (by decide) rfl ?_
  refine x_iload_n ho 2 d_MW_commonDivisor_2 rfl ?_
  refine x_istore_n (L' := [(3, zV b), (2, zV a), (0, zV a), (1, zV b)]) ho d_MW_commonDivisor_3 (by decide) rfl ?_
  refine x_iconst ho d_MW_commonDivisor_4 ?_
  refine x_istore (L' := [(4, zV 0), (3, zV b), (2, zV a), (0, zV a), (1, zV b)]) ho d_MW_commonDivisor_5 (by decide) rfl ?_
  have loop_7 : ∀ (kk : Nat) (i : Int) (y : Int) (z : Int) (i0 : 0 ≤ i ∧ i ≤ 64) (hyz : 0 ≤ y ∧ 0 ≤ z ∧ y ≤ 300 ∧ z ≤ 300 ∧ 1 ≤ y + z) (hg : dv y z = dv a b) (hp : i = 0 ∨ (z < y ∧ y * z * 2 ^ i.toNat ≤ 180000)), (64 - i).toNat < kk → X M ({ frames := 1, cells := 0, slots := 0, locals := 21 } : Room) 6 nA 0 0 (Qof M nA (q_MW_commonDivisor D a b) 0 0) 7 [(4, zV i), (3, zV z), (2, zV y), (0, zV a), (1, zV b)] [] H := by
    intro kk
    induction kk with
    | zero => intro i y z i0 hyz hg hp hk; exact absurd hk (Nat.not_lt_zero _)
    | succ kk ih_7 =>
      intro i y z i0 hyz hg hp hk_7
      refine x_iload ho 0 d_MW_commonDivisor_7 rfl ?_
      refine x_bipush (z := 64) ho d_MW_commonDivisor_9 (by decide) ?_
      refine x_icmp_ge (tgt := 34) ho d_MW_commonDivisor_11 (by decide) (by omega) (by omega) (fun c_11 => ?_) (fun c_11 => ?_)
      ·
        have hz0 : z = 0 := by rcases hp with h | h; omega; rw [show i.toNat = 64 by omega] at h; exact eu_end (by omega) (by omega) h.2
        refine x_iload_n ho 2 d_MW_commonDivisor_34 rfl ?_
        refine x_iconst ho d_MW_commonDivisor_35 ?_
        refine x_mmax ho d_MW_commonDivisor_36 g_664 (by omega) (by omega) (Nat.le_of_ble_eq_true rfl) (Nat.le_of_ble_eq_true rfl) (Nat.zero_le _) (Nat.zero_le _) ?_
        refine x_iret ho hr d_MW_commonDivisor_39 ?_
        subst hz0
        rw [dv_0 (by omega)] at hg
        exact ⟨rI (by rw [← hg, if_neg (by omega)]), by omega⟩
      ·
        refine x_iload_n ho 1 d_MW_commonDivisor_14 rfl ?_
        refine x_if_eq (tgt := 34) ho d_MW_commonDivisor_15 (by decide) (by omega) (fun c_15 => ?_) (fun c_15 => ?_)
        ·
          have hz0 : z = 0 := c_15
          refine x_iload_n ho 2 d_MW_commonDivisor_34 rfl ?_
          refine x_iconst ho d_MW_commonDivisor_35 ?_
          refine x_mmax ho d_MW_commonDivisor_36 g_664 (by omega) (by omega) (Nat.le_of_ble_eq_true rfl) (Nat.le_of_ble_eq_true rfl) (Nat.zero_le _) (Nat.zero_le _) ?_
          refine x_iret ho hr d_MW_commonDivisor_39 ?_
          subst hz0
          rw [dv_0 (by omega)] at hg
          exact ⟨rI (by rw [← hg, if_neg (by omega)]), by omega⟩
        ·
          refine x_iload_n ho 2 d_MW_commonDivisor_18 rfl ?_
          refine x_iload_n ho 1 d_MW_commonDivisor_19 rfl ?_
          refine x_irem ho d_MW_commonDivisor_20 (by omega) (by omega) ?_
          refine x_istore (L' := [(5, zV (y % z)), (4, zV i), (3, zV z), (2, zV y), (0, zV a), (1, zV b)]) ho d_MW_commonDivisor_21 (by decide) rfl ?_
          refine x_iload_n ho 2 d_MW_commonDivisor_23 rfl ?_
          refine x_istore_n (L' := [(2, zV z), (5, zV (y % z)), (4, zV i), (3, zV z), (0, zV a), (1, zV b)]) ho d_MW_commonDivisor_24 (by decide) rfl ?_
          refine x_iload ho 1 d_MW_commonDivisor_25 rfl ?_
          refine x_istore_n (L' := [(3, zV (y % z)), (2, zV z), (5, zV (y % z)), (4, zV i), (0, zV a), (1, zV b)]) ho d_MW_commonDivisor_27 (by decide) rfl ?_
          refine x_iinc (L' := [(4, zV (i + 1)), (3, zV (y % z)), (2, zV z), (5, zV (y % z)), (0, zV a), (1, zV b)]) ho 3 d_MW_commonDivisor_28 rfl rfl (by decide) rfl ?_
          refine x_goto (tgt := 7) ho d_MW_commonDivisor_31 (by decide) ?_
          refine x_sub (L' := [(4, zV (i + 1)), (3, zV (y % z)), (2, zV z), (0, zV a), (1, zV b)]) [0, 1, 2, 4, 5] rfl ?_
          exact ih_7 (i + 1) z (y % z) (by omega) (by have h1 := Int.emod_nonneg y (b := z) (by omega); have h2 := Int.emod_lt_of_pos y (b := z) (by omega); omega) (by rw [← hg]; exact dv_step (by omega) (by omega)) (by right; refine ⟨Int.emod_lt_of_pos y (by omega), ?_⟩; rw [show (i + 1).toNat = i.toNat + 1 by omega]; rcases hp with h | h; (subst h; exact eu_first (by omega)); exact eu_step (by omega) h.1 h.2) (by omega)
  exact loop_7 _ 0 a b (by omega) (by omega) (by rfl) (by exact Or.inl rfl) (Nat.lt_succ_self _)
def q_MW_image (D : GG) (x : Nat) (V : WV) (z1 : Int) (z2 : Int) : Option Value → Heap → Prop := fun v0 H => v0 = some (zV (r_image z1 z2 V)) ∧ isW D H x V
theorem yv_MW_image : Yv y_MW_image b_MW_image 4 (Option.some FieldType.int) 2 := ⟨g_546, g_53, by decide, by decide +kernel⟩
set_option maxHeartbeats 4000000 in
set_option maxRecDepth 100000 in
theorem c_MW_image (l0 : Launch) (D : GG) (x : Nat) (V : WV) (z1 : Int) (z2 : Int) (hz1 : -2147483648 ≤ z1 ∧ z1 ≤ 2147483647) (hz2 : -2147483648 ≤ z2 ∧ z2 ≤ 2147483647) : Ct l0 D y_MW_image b_MW_image 4 (Option.some FieldType.int) ({ frames := 2, cells := 0, slots := 0, locals := 41 } : Room) [.ref x, zV z1, zV z2] (fun H => isW D H x V) (rA x (x + 137)) 0 0 (q_MW_image D x V z1 z2) := by
  refine Ct.of (L := [(0, .ref x), (1, zV z1), (2, zV z2)]) (by decide) (Nat.le_of_ble_eq_true rfl) rfl (fun M H ho hr hnm hH hpre => ?_)
  have hW := hpre
  obtain ⟨xpn, xp, xc, xW1, xW2, xW3, xt, xu, xfd, xg, xe1, xe2, xe3, xm1, xm2, xos, xN, xF, a_o, a_n, a_R, a_w, a_k, a_s, a_h, a_t, a_r, a_1, a_2, a_3, a_P, a_T, a_G, a_M, a_Z, a_g⟩ := id hW
  have w_b := a_w.b
  have w_w := a_w.w
  have k_b := a_k.b
  have t_b := a_t.b
  have h_b := a_h.b
  have g_1 := a_g.1.2
  have c_w := a_R.wc
  refine x_aload_n ho 0 d_MW_image_0 rfl ?_
  refine x_get 0 ho d_MW_image_1 cl_MW (by decide) g_242 a_o rfl ?_
  refine x_get 0 ho d_MW_image_4 cl_ST (by decide) g_122 a_n rfl ?_
  refine x_iload_n ho 1 d_MW_image_7 rfl ?_
  refine x_callV (rest := []) ho d_MW_image_8 yv_RU_imageOf g_294 g_295 g_547 (c_RU_imageOf_g M.2.1 D (x + 1 + 1) xpn V.1.1 z1 (by omega)) rfl rfl ⟨Nat.le_of_ble_eq_true rfl, Nat.le_of_ble_eq_true rfl⟩ ⟨Nat.le_of_ble_eq_true rfl, Nat.le_of_ble_eq_true rfl⟩ rfl rfl (Nat.le_of_ble_eq_true rfl) a_R.1 rfl rfl a_R fr_none' (x_rd (fun v_1 hv_1 => ?_))
  rcases hv_1 with ⟨rfl, hx_3, hb_4, hI_5⟩ | ⟨rfl, hx_6, hI_7⟩
  ·
    show X _ _ _ _ _ _ _ _ _ [.ref (xpn z1)] _
    refine x_iload_n ho 2 d_MW_image_11 rfl ?_
    refine x_callV (rest := []) ho d_MW_image_12 yv_LE_letterAt g_343 g_344 g_548 (c_LE_letterAt M.2.1 D (xpn z1) 8 (V.1.1 z1) z2 (by omega)) rfl rfl ⟨Nat.le_of_ble_eq_true rfl, Nat.le_of_ble_eq_true rfl⟩ ⟨Nat.le_of_ble_eq_true rfl, Nat.le_of_ble_eq_true rfl⟩ rfl rfl (Nat.le_of_ble_eq_true rfl) hI_5.1 rfl rfl hI_5 fr_none' (x_rd (fun v_8 hv_8 => ?_))
    obtain ⟨rfl, hr_10⟩ := hv_8
    show X _ _ _ _ _ _ _ _ _ [zV (lat (V.1.1 z1) z2)] _
    refine x_istore_n (L' := [(3, zV (lat (V.1.1 z1) z2)), (0, .ref x), (1, zV z1), (2, zV z2)]) ho d_MW_image_15 (by decide) rfl ?_
    refine x_iload_n ho 0 d_MW_image_16 rfl ?_
    refine x_iconst ho d_MW_image_17 ?_
    refine x_icmp_ne (tgt := 25) ho d_MW_image_18 (by decide) (by omega) (by omega) (fun c_18 => ?_) (fun c_18 => ?_)
    ·
      refine x_iload_n ho 0 d_MW_image_25 rfl ?_
      refine x_iret ho hr d_MW_image_26 ?_
      exact ⟨rI (by unfold r_image; rw [cif_t (hx_3)]), isW_mk a_o a_n a_R a_w a_k a_s a_h a_t a_r a_1 a_2 a_3 a_P a_T a_G a_M a_Z a_g⟩
    ·
      refine x_iconst ho d_MW_image_21 ?_
      refine x_goto (tgt := 26) ho d_MW_image_22 (by decide) ?_
      refine x_iret ho hr d_MW_image_26 ?_
      exact ⟨rI (by unfold r_image; rw [cif_t (hx_3), c_18]), isW_mk a_o a_n a_R a_w a_k a_s a_h a_t a_r a_1 a_2 a_3 a_P a_T a_G a_M a_Z a_g⟩
  ·
    show X _ _ _ _ _ _ _ _ _ [.ref ((x + 1 + 1) + 2)] _
    refine x_iload_n ho 2 d_MW_image_11 rfl ?_
    refine x_callV (rest := []) ho d_MW_image_12 yv_LE_letterAt g_343 g_344 g_548 (c_LE_letterAt M.2.1 D ((x + 1 + 1) + 2) 0 ([]) z2 (by omega)) rfl rfl ⟨Nat.le_of_ble_eq_true rfl, Nat.le_of_ble_eq_true rfl⟩ ⟨Nat.le_of_ble_eq_true rfl, Nat.le_of_ble_eq_true rfl⟩ rfl rfl (Nat.le_of_ble_eq_true rfl) hI_7.1 rfl rfl hI_7 fr_none' (x_rd (fun v_11 hv_11 => ?_))
    obtain ⟨rfl, hr_13⟩ := hv_11
    show X _ _ _ _ _ _ _ _ _ [zV (lat ([]) z2)] _
    refine x_istore_n (L' := [(3, zV (lat ([]) z2)), (0, .ref x), (1, zV z1), (2, zV z2)]) ho d_MW_image_15 (by decide) rfl ?_
    refine x_iload_n ho 0 d_MW_image_16 rfl ?_
    refine x_iconst ho d_MW_image_17 ?_
    refine x_icmp_ne (tgt := 25) ho d_MW_image_18 (by decide) (by omega) (by omega) (fun c_18 => ?_) (fun c_18 => ?_)
    ·
      exact absurd (lat_out (by simp; omega)) c_18
    ·
      refine x_iconst ho d_MW_image_21 ?_
      refine x_goto (tgt := 26) ho d_MW_image_22 (by decide) ?_
      refine x_iret ho hr d_MW_image_26 ?_
      exact ⟨rI (by unfold r_image; rw [cif_f (hx_6)]), isW_mk a_o a_n a_R a_w a_k a_s a_h a_t a_r a_1 a_2 a_3 a_P a_T a_G a_M a_Z a_g⟩
def q_MW_rule (D : GG) (x : Nat) (V : WV) (z1 : Int) (z2 : Int) : Option Value → Heap → Prop := fun v0 H => v0 = some (zV (r_rule z1 z2 V)) ∧ isW D H x V
theorem yv_MW_rule : Yv y_MW_rule b_MW_rule 4 (Option.some FieldType.int) 2 := ⟨g_552, g_53, by decide, by decide +kernel⟩
set_option maxHeartbeats 4000000 in
set_option maxRecDepth 100000 in
theorem c_MW_rule (l0 : Launch) (D : GG) (x : Nat) (V : WV) (z1 : Int) (z2 : Int) (hz1 : -2147483648 ≤ z1 ∧ z1 ≤ 2147483647) (hz2 : -2147483648 ≤ z2 ∧ z2 ≤ 2147483647) : Ct l0 D y_MW_rule b_MW_rule 4 (Option.some FieldType.int) ({ frames := 4, cells := 0, slots := 0, locals := 89 } : Room) [.ref x, zV z1, zV z2] (fun H => isW D H x V) (rA x (x + 137)) 0 0 (q_MW_rule D x V z1 z2) := by
  refine Ct.of (L := [(0, .ref x), (1, zV z1), (2, zV z2)]) (by decide) (Nat.le_of_ble_eq_true rfl) rfl (fun M H ho hr hnm hH hpre => ?_)
  have hW := hpre
  obtain ⟨xpn, xp, xc, xW1, xW2, xW3, xt, xu, xfd, xg, xe1, xe2, xe3, xm1, xm2, xos, xN, xF, a_o, a_n, a_R, a_w, a_k, a_s, a_h, a_t, a_r, a_1, a_2, a_3, a_P, a_T, a_G, a_M, a_Z, a_g⟩ := id hW
  have w_b := a_w.b
  have w_w := a_w.w
  have k_b := a_k.b
  have t_b := a_t.b
  have h_b := a_h.b
  have g_1 := a_g.1.2
  have c_w := a_R.wc
  refine x_iload_n ho 1 d_MW_rule_0 rfl ?_
  refine x_callS (rest := []) ho d_MW_rule_1 yv_MW_isLetter g_109 g_410 (c_MW_isLetter M.2.1 D z1 (by omega)) rfl rfl ⟨Nat.le_of_ble_eq_true rfl, Nat.le_of_ble_eq_true rfl⟩ ⟨Nat.le_of_ble_eq_true rfl, Nat.le_of_ble_eq_true rfl⟩ rfl rfl (Nat.le_of_ble_eq_true rfl) trivial fr_none' (x_rd (fun v_1 hv_1 => ?_))
  obtain rfl := hv_1
  show X _ _ _ _ _ _ _ _ _ [zV (bI (0 ≤ z1 ∧ z1 < 4))] _
  refine x_if_neB (tgt := 9) ho d_MW_rule_4 (by decide) (fun c_4 => ?_) (fun c_4 => ?_)
  ·
    refine x_aload_n ho 0 d_MW_rule_9 rfl ?_
    refine x_get 0 ho d_MW_rule_10 cl_MW (by decide) g_242 a_o rfl ?_
    refine x_get 0 ho d_MW_rule_13 cl_ST (by decide) g_122 a_n rfl ?_
    refine x_iload_n ho 1 d_MW_rule_16 rfl ?_
    refine x_callV (rest := []) ho d_MW_rule_17 yv_RU_imageOf g_294 g_295 g_547 (c_RU_imageOf M.2.1 D (x + 1 + 1) xpn V.1.1 z1 (by omega)) rfl rfl ⟨Nat.le_of_ble_eq_true rfl, Nat.le_of_ble_eq_true rfl⟩ ⟨Nat.le_of_ble_eq_true rfl, Nat.le_of_ble_eq_true rfl⟩ rfl rfl (Nat.le_of_ble_eq_true rfl) a_R.1 rfl rfl a_R fr_none' (x_rd (fun v_3 hv_3 => ?_))
    obtain ⟨rfl, hb_5, hI_6⟩ := hv_3
    show X _ _ _ _ _ _ _ _ _ [.ref (xpn z1)] _
    refine x_astore_n (L' := [(3, .ref (xpn z1)), (0, .ref x), (1, zV z1), (2, zV z2)]) ho d_MW_rule_20 (by decide) rfl ?_
    have c_b := (a_R.w c_4.1 c_4.2).2
    refine x_iload_n ho 3 d_MW_rule_21 rfl ?_
    rcases (show (z2 < 0 ∨ 3 < z2) ∨ z2 = 0 ∨ z2 = 1 ∨ z2 = 2 ∨ z2 = 3 by omega) with sw_22 | sw_22 | sw_22 | sw_22 | sw_22
    ·
      refine x_tabOut (tgt := 97) ho d_MW_rule_22 (by omega) sw_22 (by decide) ?_
      refine x_bipush (z := (-2)) ho d_MW_rule_97 (by decide) ?_
      refine x_iret ho hr d_MW_rule_99 ?_
      exact ⟨rI (by unfold r_rule; rw [cif_t (c_4), cif_f (by omega), cif_f (by omega), cif_f (by omega), cif_f (by omega)]), isW_mk a_o a_n a_R a_w a_k a_s a_h a_t a_r a_1 a_2 a_3 a_P a_T a_G a_M a_Z a_g⟩
    ·
      refine x_tabIn (tgt := 52) (off := 30) ho 0 d_MW_rule_22 sw_22 (by decide) (by decide) rfl (by decide) ?_
      refine x_aload_n ho 0 d_MW_rule_52 rfl ?_
      refine x_callV (rest := []) ho d_MW_rule_53 yv_LE_length g_323 g_324 g_428 (c_LE_length M.2.1 D (xpn z1) 8 (V.1.1 z1) ) rfl rfl ⟨Nat.le_of_ble_eq_true rfl, Nat.le_of_ble_eq_true rfl⟩ ⟨Nat.le_of_ble_eq_true rfl, Nat.le_of_ble_eq_true rfl⟩ rfl rfl (Nat.le_of_ble_eq_true rfl) hI_6.1 rfl rfl hI_6 fr_none' (x_rd (fun v_7 hv_7 => ?_))
      obtain rfl := hv_7
      show X _ _ _ _ _ _ _ _ _ [zV (((V.1.1 z1).length : Int))] _
      refine x_iret ho hr d_MW_rule_56 ?_
      exact ⟨rI (by unfold r_rule; rw [cif_t (c_4), cif_t (by omega)]), isW_mk a_o a_n a_R a_w a_k a_s a_h a_t a_r a_1 a_2 a_3 a_P a_T a_G a_M a_Z a_g⟩
    ·
      refine x_tabIn (tgt := 57) (off := 35) ho 1 d_MW_rule_22 sw_22 (by decide) (by decide) rfl (by decide) ?_
      refine x_aload_n ho 0 d_MW_rule_57 rfl ?_
      refine x_callV (rest := []) ho d_MW_rule_58 yv_LE_bits g_554 g_555 g_553 (c_LE_bits M.2.1 D (xpn z1) 8 (V.1.1 z1) ) rfl rfl ⟨Nat.le_of_ble_eq_true rfl, Nat.le_of_ble_eq_true rfl⟩ ⟨Nat.le_of_ble_eq_true rfl, Nat.le_of_ble_eq_true rfl⟩ rfl rfl (Nat.le_of_ble_eq_true rfl) hI_6.1 rfl rfl hI_6 fr_none' (x_rd (fun v_9 hv_9 => ?_))
      obtain ⟨rfl, hr_11⟩ := hv_9
      show X _ _ _ _ _ _ _ _ _ [zV (bitL (V.1.1 z1))] _
      refine x_iret ho hr d_MW_rule_61 ?_
      exact ⟨rI (by unfold r_rule; rw [cif_t (c_4), cif_f (by omega), cif_t (by omega)]), isW_mk a_o a_n a_R a_w a_k a_s a_h a_t a_r a_1 a_2 a_3 a_P a_T a_G a_M a_Z a_g⟩
    ·
      refine x_tabIn (tgt := 62) (off := 40) ho 2 d_MW_rule_22 sw_22 (by decide) (by decide) rfl (by decide) ?_
      refine x_aload_n ho 1 d_MW_rule_62 rfl ?_
      refine x_get 0 ho d_MW_rule_63 cl_MW (by decide) g_242 a_o rfl ?_
      refine x_get 0 ho d_MW_rule_66 cl_ST (by decide) g_122 a_n rfl ?_
      refine x_iload_n ho 2 d_MW_rule_69 rfl ?_
      refine x_callV (rest := []) ho d_MW_rule_70 yv_RU_reachedFrom g_558 g_559 g_557 (c_RU_reachedFrom M.2.1 D (x + 1 + 1) xpn V.1.1 z1 (by omega)) rfl rfl ⟨Nat.le_of_ble_eq_true rfl, Nat.le_of_ble_eq_true rfl⟩ ⟨Nat.le_of_ble_eq_true rfl, Nat.le_of_ble_eq_true rfl⟩ rfl rfl (Nat.le_of_ble_eq_true rfl) a_R.1 rfl rfl a_R fr_none' (x_rd (fun v_12 hv_12 => ?_))
      obtain ⟨rfl, hr_14⟩ := hv_12
      show X _ _ _ _ _ _ _ _ _ [zV (rea V.1.1 z1)] _
      refine x_iret ho hr d_MW_rule_73 ?_
      exact ⟨rI (by unfold r_rule; rw [cif_t (c_4), cif_f (by omega), cif_f (by omega), cif_t (by omega)]), isW_mk a_o a_n a_R a_w a_k a_s a_h a_t a_r a_1 a_2 a_3 a_P a_T a_G a_M a_Z a_g⟩
    ·
      refine x_tabIn (tgt := 74) (off := 52) ho 3 d_MW_rule_22 sw_22 (by decide) (by decide) rfl (by decide) ?_
      refine x_aload_n ho 0 d_MW_rule_74 rfl ?_
      refine x_iconst ho d_MW_rule_75 ?_
      refine x_callV (rest := []) ho d_MW_rule_76 yv_LE_letterAt g_343 g_344 g_548 (c_LE_letterAt M.2.1 D (xpn z1) 8 (V.1.1 z1) 0 (by omega)) rfl rfl ⟨Nat.le_of_ble_eq_true rfl, Nat.le_of_ble_eq_true rfl⟩ ⟨Nat.le_of_ble_eq_true rfl, Nat.le_of_ble_eq_true rfl⟩ rfl rfl (Nat.le_of_ble_eq_true rfl) hI_6.1 rfl rfl hI_6 fr_none' (x_rd (fun v_15 hv_15 => ?_))
      obtain ⟨rfl, hr_17⟩ := hv_15
      show X _ _ _ _ _ _ _ _ _ [zV (lat (V.1.1 z1) 0)] _
      refine x_iload_n ho 2 d_MW_rule_79 rfl ?_
      refine x_icmp_ne (tgt := 95) ho d_MW_rule_80 (by decide) (by omega) (by omega) (fun c_80 => ?_) (fun c_80 => ?_)
      ·
        refine x_iconst ho d_MW_rule_95 ?_
        refine x_iret ho hr d_MW_rule_96 ?_
        exact ⟨rI (by unfold r_rule; rw [cif_t (c_4), cif_f (by omega), cif_f (by omega), cif_f (by omega), cif_t (by omega)]; exact (bI_f (fun q => c_80 q.1)).symm), isW_mk a_o a_n a_R a_w a_k a_s a_h a_t a_r a_1 a_2 a_3 a_P a_T a_G a_M a_Z a_g⟩
      ·
        refine x_aload_n ho 0 d_MW_rule_83 rfl ?_
        refine x_callV (rest := []) ho d_MW_rule_84 yv_LE_length g_323 g_324 g_428 (c_LE_length M.2.1 D (xpn z1) 8 (V.1.1 z1) ) rfl rfl ⟨Nat.le_of_ble_eq_true rfl, Nat.le_of_ble_eq_true rfl⟩ ⟨Nat.le_of_ble_eq_true rfl, Nat.le_of_ble_eq_true rfl⟩ rfl rfl (Nat.le_of_ble_eq_true rfl) hI_6.1 rfl rfl hI_6 fr_none' (x_rd (fun v_18 hv_18 => ?_))
        obtain rfl := hv_18
        show X _ _ _ _ _ _ _ _ _ [zV (((V.1.1 z1).length : Int))] _
        refine x_iconst ho d_MW_rule_87 ?_
        refine x_icmp_lt (tgt := 95) ho d_MW_rule_88 (by decide) (by omega) (by omega) (fun c_88 => ?_) (fun c_88 => ?_)
        ·
          refine x_iconst ho d_MW_rule_95 ?_
          refine x_iret ho hr d_MW_rule_96 ?_
          exact ⟨rI (by unfold r_rule; rw [cif_t (c_4), cif_f (by omega), cif_f (by omega), cif_f (by omega), cif_t (by omega)]; exact (bI_f (fun q => by omega)).symm), isW_mk a_o a_n a_R a_w a_k a_s a_h a_t a_r a_1 a_2 a_3 a_P a_T a_G a_M a_Z a_g⟩
        ·
          refine x_iconst ho d_MW_rule_91 ?_
          refine x_goto (tgt := 96) ho d_MW_rule_92 (by decide) ?_
          refine x_iret ho hr d_MW_rule_96 ?_
          exact ⟨rI (by unfold r_rule; rw [cif_t (c_4), cif_f (by omega), cif_f (by omega), cif_f (by omega), cif_t (by omega)]; exact (bI_t ⟨c_80, by omega⟩).symm), isW_mk a_o a_n a_R a_w a_k a_s a_h a_t a_r a_1 a_2 a_3 a_P a_T a_G a_M a_Z a_g⟩
  ·
    refine x_iconst ho d_MW_rule_7 ?_
    refine x_iret ho hr d_MW_rule_8 ?_
    exact ⟨rI (by unfold r_rule; rw [cif_f (c_4)]), isW_mk a_o a_n a_R a_w a_k a_s a_h a_t a_r a_1 a_2 a_3 a_P a_T a_G a_M a_Z a_g⟩
def q_MW_lengthBehind (D : GG) (x : Nat) (V : WV) (z1 : Int) (z2 : Int) : Option Value → Heap → Prop := fun v0 H => v0 = some (zV (r_lengthBehind z1 z2 V)) ∧ isW D H x V
theorem yv_MW_lengthBehind : Yv y_MW_lengthBehind b_MW_lengthBehind 3 (Option.some FieldType.int) 2 := ⟨g_570, g_53, by decide, by decide +kernel⟩
set_option maxHeartbeats 4000000 in
set_option maxRecDepth 100000 in
theorem c_MW_lengthBehind (l0 : Launch) (D : GG) (x : Nat) (V : WV) (z1 : Int) (z2 : Int) (hz1 : -2147483648 ≤ z1 ∧ z1 ≤ 2147483647) (hz2 : -2147483648 ≤ z2 ∧ z2 ≤ 2147483647) : Ct l0 D y_MW_lengthBehind b_MW_lengthBehind 3 (Option.some FieldType.int) ({ frames := 4, cells := 0, slots := 0, locals := 107 } : Room) [.ref x, zV z1, zV z2] (fun H => isW D H x V) (rA x (x + 137)) 0 0 (q_MW_lengthBehind D x V z1 z2) := by
  refine Ct.of (L := [(0, .ref x), (1, zV z1), (2, zV z2)]) (by decide) (Nat.le_of_ble_eq_true rfl) rfl (fun M H ho hr hnm hH hpre => ?_)
  have hW := hpre
  obtain ⟨xpn, xp, xc, xW1, xW2, xW3, xt, xu, xfd, xg, xe1, xe2, xe3, xm1, xm2, xos, xN, xF, a_o, a_n, a_R, a_w, a_k, a_s, a_h, a_t, a_r, a_1, a_2, a_3, a_P, a_T, a_G, a_M, a_Z, a_g⟩ := id hW
  have w_b := a_w.b
  have w_w := a_w.w
  have k_b := a_k.b
  have t_b := a_t.b
  have h_b := a_h.b
  have g_1 := a_g.1.2
  have c_w := a_R.wc
  refine x_iload_n ho 1 d_MW_lengthBehind_0 rfl ?_
  refine x_callS (rest := []) ho d_MW_lengthBehind_1 yv_MW_isLetter g_109 g_410 (c_MW_isLetter M.2.1 D z1 (by omega)) rfl rfl ⟨Nat.le_of_ble_eq_true rfl, Nat.le_of_ble_eq_true rfl⟩ ⟨Nat.le_of_ble_eq_true rfl, Nat.le_of_ble_eq_true rfl⟩ rfl rfl (Nat.le_of_ble_eq_true rfl) trivial fr_none' (x_rd (fun v_1 hv_1 => ?_))
  obtain rfl := hv_1
  show X _ _ _ _ _ _ _ _ _ [zV (bI (0 ≤ z1 ∧ z1 < 4))] _
  refine x_if_neB (tgt := 9) ho d_MW_lengthBehind_4 (by decide) (fun c_4 => ?_) (fun c_4 => ?_)
  ·
    refine x_iload_n ho 2 d_MW_lengthBehind_9 rfl ?_
    refine x_if_lt (tgt := 19) ho d_MW_lengthBehind_10 (by decide) (by omega) (fun c_10 => ?_) (fun c_10 => ?_)
    ·
      refine x_bipush (z := (-2)) ho d_MW_lengthBehind_19 (by decide) ?_
      refine x_iret ho hr d_MW_lengthBehind_21 ?_
      exact ⟨rI (by unfold r_lengthBehind; rw [cif_t (c_4), cif_f (by omega)]), isW_mk a_o a_n a_R a_w a_k a_s a_h a_t a_r a_1 a_2 a_3 a_P a_T a_G a_M a_Z a_g⟩
    ·
      refine x_iload_n ho 2 d_MW_lengthBehind_13 rfl ?_
      refine x_bipush (z := 30) ho d_MW_lengthBehind_14 (by decide) ?_
      refine x_icmp_le (tgt := 22) ho d_MW_lengthBehind_16 (by decide) (by omega) (by omega) (fun c_16 => ?_) (fun c_16 => ?_)
      ·
        refine x_aload_n ho 0 d_MW_lengthBehind_22 rfl ?_
        refine x_get 9 ho d_MW_lengthBehind_23 cl_MW (by decide) g_251 a_o rfl ?_
        refine x_aload_n ho 0 d_MW_lengthBehind_26 rfl ?_
        refine x_get 0 ho d_MW_lengthBehind_27 cl_MW (by decide) g_242 a_o rfl ?_
        refine x_get 0 ho d_MW_lengthBehind_30 cl_ST (by decide) g_122 a_n rfl ?_
        refine x_iload_n ho 1 d_MW_lengthBehind_33 rfl ?_
        refine x_iload_n ho 2 d_MW_lengthBehind_34 rfl ?_
        refine x_callV (rest := []) ho d_MW_lengthBehind_35 yv_PW_find g_572 g_573 g_571 (c_PW_find M.2.1 D (x + 125) xt xu (x + 1 + 1) xpn V.1.1 z1 z2 (by omega) (by omega) (by omega) (by exact a_g.1.1)) rfl rfl ⟨Nat.le_of_ble_eq_true rfl, Nat.le_of_ble_eq_true rfl⟩ ⟨Nat.le_of_ble_eq_true rfl, Nat.le_of_ble_eq_true rfl⟩ rfl rfl (Nat.le_of_ble_eq_true rfl) a_P.1 rfl rfl ⟨a_P, a_R⟩ (rA_sub (by omega) (by omega)) (fun v_3 H_5 hv_3 f_4 => ?_)
        have k_6 := a_o.kept (f_4.2 _ a_o.lt (rA_no (by omega)))
        have k_7 := a_n.kept (f_4.2 _ a_n.lt (rA_no (by omega)))
        have k_8 := a_w.kept (fun q g1 g2 => f_4.2 q (by have := a_w.lt; omega) (rA_no (by omega)))
        have k_9 := a_k.kept (fun q g1 g2 => f_4.2 q (by have := a_k.lt; omega) (rA_no (by omega)))
        have k_10 := a_s.kept (fun q g1 g2 => f_4.2 q (by have := a_s.lt; omega) (rA_no (by omega)))
        have k_11 := a_h.kept (fun q g1 g2 => f_4.2 q (by have := a_h.lt; omega) (rA_no (by omega)))
        have k_12 := a_t.kept (fun q g1 g2 => f_4.2 q (by have := a_t.lt; omega) (rA_no (by omega)))
        have k_13 := a_r.kept (fun q g1 g2 => f_4.2 q (by have := a_r.lt; omega) (rA_no (by omega)))
        have k_14 := a_1.kept (fun q g1 g2 => f_4.2 q (by have := a_1.lt; omega) (rA_no (by omega)))
        have k_15 := a_2.kept (fun q g1 g2 => f_4.2 q (by have := a_2.lt; omega) (rA_no (by omega)))
        have k_16 := a_3.kept (fun q g1 g2 => f_4.2 q (by have := a_3.lt; omega) (rA_no (by omega)))
        have k_17 := a_T.kept (fun q g1 g2 => f_4.2 q (by have := a_T.lt; omega) (rA_no (by omega)))
        have k_18 := a_G.kept (fun q g1 g2 => f_4.2 q (by have := a_G.lt; omega) (rA_no (by omega)))
        have k_19 := a_M.kept (fun q g1 g2 => f_4.2 q (by have := a_M.lt; omega) (rA_no (by omega)))
        have k_20 := a_Z.kept (fun q g1 g2 => f_4.2 q (by have := a_Z.lt; omega) (rA_no (by omega)))
        rcases hv_3 with ⟨t2_21, u2_22, rfl, hs_23, ht_24, hP_25, hR_26⟩ | ⟨t2_27, u2_28, rfl, hs_29, hP_30, hR_31⟩
        ·
          show X _ _ _ _ _ _ _ _ _ [zV 1] _
          refine x_if_eq (tgt := 51) ho d_MW_lengthBehind_38 (by decide) (by omega) (fun c => absurd c (by decide)) (fun _ => ?_)
          refine x_aload_n ho 0 d_MW_lengthBehind_41 rfl ?_
          refine x_get 9 ho d_MW_lengthBehind_42 cl_MW (by decide) g_251 k_6 rfl ?_
          refine x_callV (rest := []) ho d_MW_lengthBehind_45 yv_PW_total g_576 g_577 g_586 (c_PW_total M.2.1 D (x + 125) t2_21 u2_22 ) rfl rfl ⟨Nat.le_of_ble_eq_true rfl, Nat.le_of_ble_eq_true rfl⟩ ⟨Nat.le_of_ble_eq_true rfl, Nat.le_of_ble_eq_true rfl⟩ rfl rfl (Nat.le_of_ble_eq_true rfl) hP_25.1 rfl rfl hP_25 fr_none' (x_rd (fun v_32 hv_32 => ?_))
          obtain rfl := hv_32
          show X _ _ _ _ _ _ _ _ _ [zV (su t2_21)] _
          refine x_goto (tgt := 53) ho d_MW_lengthBehind_48 (by decide) ?_
          refine x_iret ho hr d_MW_lengthBehind_53 ?_
          exact ⟨rI (by unfold r_lengthBehind; rw [cif_t (c_4), cif_t (by omega), cif_t (hs_23)]; exact su_c ht_24), isW_mk k_6 k_7 hR_26 k_8 k_9 k_10 k_11 k_12 k_13 k_14 k_15 k_16 hP_25 k_17 k_18 k_19 k_20 a_g⟩
        ·
          show X _ _ _ _ _ _ _ _ _ [zV 0] _
          refine x_if_eq (tgt := 51) ho d_MW_lengthBehind_38 (by decide) (by omega) (fun _ => ?_) (fun c => absurd c (by decide))
          refine x_bipush (z := (-3)) ho d_MW_lengthBehind_51 (by decide) ?_
          refine x_iret ho hr d_MW_lengthBehind_53 ?_
          exact ⟨rI (by unfold r_lengthBehind; rw [cif_t (c_4), cif_t (by omega), cif_f (hs_29)]), isW_mk k_6 k_7 hR_31 k_8 k_9 k_10 k_11 k_12 k_13 k_14 k_15 k_16 hP_30 k_17 k_18 k_19 k_20 a_g⟩
      ·
        refine x_bipush (z := (-2)) ho d_MW_lengthBehind_19 (by decide) ?_
        refine x_iret ho hr d_MW_lengthBehind_21 ?_
        exact ⟨rI (by unfold r_lengthBehind; rw [cif_t (c_4), cif_f (by omega)]), isW_mk a_o a_n a_R a_w a_k a_s a_h a_t a_r a_1 a_2 a_3 a_P a_T a_G a_M a_Z a_g⟩
  ·
    refine x_iconst ho d_MW_lengthBehind_7 ?_
    refine x_iret ho hr d_MW_lengthBehind_8 ?_
    exact ⟨rI (by unfold r_lengthBehind; rw [cif_f (c_4)]), isW_mk a_o a_n a_R a_w a_k a_s a_h a_t a_r a_1 a_2 a_3 a_P a_T a_G a_M a_Z a_g⟩
def q_MW_countBehind (D : GG) (x : Nat) (V : WV) (z1 : Int) (z2 : Int) (z3 : Int) : Option Value → Heap → Prop := fun v0 H => v0 = some (zV (r_countBehind z1 z2 z3 V)) ∧ isW D H x V
theorem yv_MW_countBehind : Yv y_MW_countBehind b_MW_countBehind 4 (Option.some FieldType.int) 3 := ⟨g_590, g_53, by decide, by decide +kernel⟩
set_option maxHeartbeats 4000000 in
set_option maxRecDepth 100000 in
theorem c_MW_countBehind (l0 : Launch) (D : GG) (x : Nat) (V : WV) (z1 : Int) (z2 : Int) (z3 : Int) (hz1 : -2147483648 ≤ z1 ∧ z1 ≤ 2147483647) (hz2 : -2147483648 ≤ z2 ∧ z2 ≤ 2147483647) (hz3 : -2147483648 ≤ z3 ∧ z3 ≤ 2147483647) : Ct l0 D y_MW_countBehind b_MW_countBehind 4 (Option.some FieldType.int) ({ frames := 4, cells := 0, slots := 0, locals := 107 } : Room) [.ref x, zV z1, zV z2, zV z3] (fun H => isW D H x V) (rA x (x + 137)) 0 0 (q_MW_countBehind D x V z1 z2 z3) := by
  refine Ct.of (L := [(0, .ref x), (1, zV z1), (2, zV z2), (3, zV z3)]) (by decide) (Nat.le_of_ble_eq_true rfl) rfl (fun M H ho hr hnm hH hpre => ?_)
  have hW := hpre
  obtain ⟨xpn, xp, xc, xW1, xW2, xW3, xt, xu, xfd, xg, xe1, xe2, xe3, xm1, xm2, xos, xN, xF, a_o, a_n, a_R, a_w, a_k, a_s, a_h, a_t, a_r, a_1, a_2, a_3, a_P, a_T, a_G, a_M, a_Z, a_g⟩ := id hW
  have w_b := a_w.b
  have w_w := a_w.w
  have k_b := a_k.b
  have t_b := a_t.b
  have h_b := a_h.b
  have g_1 := a_g.1.2
  have c_w := a_R.wc
  refine x_iload_n ho 1 d_MW_countBehind_0 rfl ?_
  refine x_callS (rest := []) ho d_MW_countBehind_1 yv_MW_isLetter g_109 g_410 (c_MW_isLetter M.2.1 D z1 (by omega)) rfl rfl ⟨Nat.le_of_ble_eq_true rfl, Nat.le_of_ble_eq_true rfl⟩ ⟨Nat.le_of_ble_eq_true rfl, Nat.le_of_ble_eq_true rfl⟩ rfl rfl (Nat.le_of_ble_eq_true rfl) trivial fr_none' (x_rd (fun v_1 hv_1 => ?_))
  obtain rfl := hv_1
  show X _ _ _ _ _ _ _ _ _ [zV (bI (0 ≤ z1 ∧ z1 < 4))] _
  refine x_if_eqB (tgt := 14) ho d_MW_countBehind_4 (by decide) (fun c_4 => ?_) (fun c_4 => ?_)
  ·
    refine x_iconst ho d_MW_countBehind_14 ?_
    refine x_iret ho hr d_MW_countBehind_15 ?_
    exact ⟨rI (by unfold r_countBehind; rw [cif_f (fun q => c_4 q.1)]), isW_mk a_o a_n a_R a_w a_k a_s a_h a_t a_r a_1 a_2 a_3 a_P a_T a_G a_M a_Z a_g⟩
  ·
    refine x_iload_n ho 2 d_MW_countBehind_7 rfl ?_
    refine x_callS (rest := []) ho d_MW_countBehind_8 yv_MW_isLetter g_109 g_410 (c_MW_isLetter M.2.1 D z2 (by omega)) rfl rfl ⟨Nat.le_of_ble_eq_true rfl, Nat.le_of_ble_eq_true rfl⟩ ⟨Nat.le_of_ble_eq_true rfl, Nat.le_of_ble_eq_true rfl⟩ rfl rfl (Nat.le_of_ble_eq_true rfl) trivial fr_none' (x_rd (fun v_3 hv_3 => ?_))
    obtain rfl := hv_3
    show X _ _ _ _ _ _ _ _ _ [zV (bI (0 ≤ z2 ∧ z2 < 4))] _
    refine x_if_neB (tgt := 16) ho d_MW_countBehind_11 (by decide) (fun c_11 => ?_) (fun c_11 => ?_)
    ·
      refine x_iload_n ho 3 d_MW_countBehind_16 rfl ?_
      refine x_if_lt (tgt := 26) ho d_MW_countBehind_17 (by decide) (by omega) (fun c_17 => ?_) (fun c_17 => ?_)
      ·
        refine x_bipush (z := (-2)) ho d_MW_countBehind_26 (by decide) ?_
        refine x_iret ho hr d_MW_countBehind_28 ?_
        exact ⟨rI (by unfold r_countBehind; rw [cif_t (⟨c_4, c_11⟩), cif_f (by omega)]), isW_mk a_o a_n a_R a_w a_k a_s a_h a_t a_r a_1 a_2 a_3 a_P a_T a_G a_M a_Z a_g⟩
      ·
        refine x_iload_n ho 3 d_MW_countBehind_20 rfl ?_
        refine x_bipush (z := 30) ho d_MW_countBehind_21 (by decide) ?_
        refine x_icmp_le (tgt := 29) ho d_MW_countBehind_23 (by decide) (by omega) (by omega) (fun c_23 => ?_) (fun c_23 => ?_)
        ·
          refine x_aload_n ho 0 d_MW_countBehind_29 rfl ?_
          refine x_get 9 ho d_MW_countBehind_30 cl_MW (by decide) g_251 a_o rfl ?_
          refine x_aload_n ho 0 d_MW_countBehind_33 rfl ?_
          refine x_get 0 ho d_MW_countBehind_34 cl_MW (by decide) g_242 a_o rfl ?_
          refine x_get 0 ho d_MW_countBehind_37 cl_ST (by decide) g_122 a_n rfl ?_
          refine x_iload_n ho 1 d_MW_countBehind_40 rfl ?_
          refine x_iload_n ho 3 d_MW_countBehind_41 rfl ?_
          refine x_callV (rest := []) ho d_MW_countBehind_42 yv_PW_find g_572 g_573 g_571 (c_PW_find M.2.1 D (x + 125) xt xu (x + 1 + 1) xpn V.1.1 z1 z3 (by omega) (by omega) (by omega) (by exact a_g.1.1)) rfl rfl ⟨Nat.le_of_ble_eq_true rfl, Nat.le_of_ble_eq_true rfl⟩ ⟨Nat.le_of_ble_eq_true rfl, Nat.le_of_ble_eq_true rfl⟩ rfl rfl (Nat.le_of_ble_eq_true rfl) a_P.1 rfl rfl ⟨a_P, a_R⟩ (rA_sub (by omega) (by omega)) (fun v_5 H_7 hv_5 f_6 => ?_)
          have k_8 := a_o.kept (f_6.2 _ a_o.lt (rA_no (by omega)))
          have k_9 := a_n.kept (f_6.2 _ a_n.lt (rA_no (by omega)))
          have k_10 := a_w.kept (fun q g1 g2 => f_6.2 q (by have := a_w.lt; omega) (rA_no (by omega)))
          have k_11 := a_k.kept (fun q g1 g2 => f_6.2 q (by have := a_k.lt; omega) (rA_no (by omega)))
          have k_12 := a_s.kept (fun q g1 g2 => f_6.2 q (by have := a_s.lt; omega) (rA_no (by omega)))
          have k_13 := a_h.kept (fun q g1 g2 => f_6.2 q (by have := a_h.lt; omega) (rA_no (by omega)))
          have k_14 := a_t.kept (fun q g1 g2 => f_6.2 q (by have := a_t.lt; omega) (rA_no (by omega)))
          have k_15 := a_r.kept (fun q g1 g2 => f_6.2 q (by have := a_r.lt; omega) (rA_no (by omega)))
          have k_16 := a_1.kept (fun q g1 g2 => f_6.2 q (by have := a_1.lt; omega) (rA_no (by omega)))
          have k_17 := a_2.kept (fun q g1 g2 => f_6.2 q (by have := a_2.lt; omega) (rA_no (by omega)))
          have k_18 := a_3.kept (fun q g1 g2 => f_6.2 q (by have := a_3.lt; omega) (rA_no (by omega)))
          have k_19 := a_T.kept (fun q g1 g2 => f_6.2 q (by have := a_T.lt; omega) (rA_no (by omega)))
          have k_20 := a_G.kept (fun q g1 g2 => f_6.2 q (by have := a_G.lt; omega) (rA_no (by omega)))
          have k_21 := a_M.kept (fun q g1 g2 => f_6.2 q (by have := a_M.lt; omega) (rA_no (by omega)))
          have k_22 := a_Z.kept (fun q g1 g2 => f_6.2 q (by have := a_Z.lt; omega) (rA_no (by omega)))
          rcases hv_5 with ⟨t2_23, u2_24, rfl, hs_25, ht_26, hP_27, hR_28⟩ | ⟨t2_29, u2_30, rfl, hs_31, hP_32, hR_33⟩
          ·
            show X _ _ _ _ _ _ _ _ _ [zV 1] _
            refine x_if_eq (tgt := 59) ho d_MW_countBehind_45 (by decide) (by omega) (fun c => absurd c (by decide)) (fun _ => ?_)
            refine x_aload_n ho 0 d_MW_countBehind_48 rfl ?_
            refine x_get 9 ho d_MW_countBehind_49 cl_MW (by decide) g_251 k_8 rfl ?_
            refine x_iload_n ho 2 d_MW_countBehind_52 rfl ?_
            refine x_callV (rest := []) ho d_MW_countBehind_53 yv_PW_countOf g_592 g_593 g_591 (c_PW_countOf M.2.1 D (x + 125) t2_23 u2_24 z2 (by omega)) rfl rfl ⟨Nat.le_of_ble_eq_true rfl, Nat.le_of_ble_eq_true rfl⟩ ⟨Nat.le_of_ble_eq_true rfl, Nat.le_of_ble_eq_true rfl⟩ rfl rfl (Nat.le_of_ble_eq_true rfl) hP_27.1 rfl rfl hP_27 fr_none' (x_rd (fun v_34 hv_34 => ?_))
            obtain rfl := hv_34
            show X _ _ _ _ _ _ _ _ _ [zV (t2_23 z2)] _
            refine x_goto (tgt := 61) ho d_MW_countBehind_56 (by decide) ?_
            refine x_iret ho hr d_MW_countBehind_61 ?_
            exact ⟨rI (by unfold r_countBehind; rw [cif_t (⟨c_4, c_11⟩), cif_t (by omega), cif_t (hs_25)]; exact ht_26 _ c_11.1 c_11.2), isW_mk k_8 k_9 hR_28 k_10 k_11 k_12 k_13 k_14 k_15 k_16 k_17 k_18 hP_27 k_19 k_20 k_21 k_22 a_g⟩
          ·
            show X _ _ _ _ _ _ _ _ _ [zV 0] _
            refine x_if_eq (tgt := 59) ho d_MW_countBehind_45 (by decide) (by omega) (fun _ => ?_) (fun c => absurd c (by decide))
            refine x_bipush (z := (-3)) ho d_MW_countBehind_59 (by decide) ?_
            refine x_iret ho hr d_MW_countBehind_61 ?_
            exact ⟨rI (by unfold r_countBehind; rw [cif_t (⟨c_4, c_11⟩), cif_t (by omega), cif_f (hs_31)]), isW_mk k_8 k_9 hR_33 k_10 k_11 k_12 k_13 k_14 k_15 k_16 k_17 k_18 hP_32 k_19 k_20 k_21 k_22 a_g⟩
        ·
          refine x_bipush (z := (-2)) ho d_MW_countBehind_26 (by decide) ?_
          refine x_iret ho hr d_MW_countBehind_28 ?_
          exact ⟨rI (by unfold r_countBehind; rw [cif_t (⟨c_4, c_11⟩), cif_f (by omega)]), isW_mk a_o a_n a_R a_w a_k a_s a_h a_t a_r a_1 a_2 a_3 a_P a_T a_G a_M a_Z a_g⟩
    ·
      refine x_iconst ho d_MW_countBehind_14 ?_
      refine x_iret ho hr d_MW_countBehind_15 ?_
      exact ⟨rI (by unfold r_countBehind; rw [cif_f (fun q => c_11 q.2)]), isW_mk a_o a_n a_R a_w a_k a_s a_h a_t a_r a_1 a_2 a_3 a_P a_T a_G a_M a_Z a_g⟩
def q_MW_mixing (D : GG) (x : Nat) (V : WV) : Option Value → Heap → Prop := fun v0 H => v0 = some (zV (r_mixing V)) ∧ isW D H x V
theorem yv_MW_mixing : Yv y_MW_mixing b_MW_mixing 2 (Option.some FieldType.int) 0 := ⟨g_598, g_53, by decide, by decide +kernel⟩
set_option maxHeartbeats 4000000 in
set_option maxRecDepth 100000 in
theorem c_MW_mixing (l0 : Launch) (D : GG) (x : Nat) (V : WV)  : Ct l0 D y_MW_mixing b_MW_mixing 2 (Option.some FieldType.int) ({ frames := 5, cells := 0, slots := 0, locals := 114 } : Room) [.ref x] (fun H => isW D H x V) (rA x (x + 137)) 0 0 (q_MW_mixing D x V) := by
  refine Ct.of (L := [(0, .ref x)]) (by decide) (Nat.le_of_ble_eq_true rfl) rfl (fun M H ho hr hnm hH hpre => ?_)
  have hW := hpre
  obtain ⟨xpn, xp, xc, xW1, xW2, xW3, xt, xu, xfd, xg, xe1, xe2, xe3, xm1, xm2, xos, xN, xF, a_o, a_n, a_R, a_w, a_k, a_s, a_h, a_t, a_r, a_1, a_2, a_3, a_P, a_T, a_G, a_M, a_Z, a_g⟩ := id hW
  have w_b := a_w.b
  have w_w := a_w.w
  have k_b := a_k.b
  have t_b := a_t.b
  have h_b := a_h.b
  have g_1 := a_g.1.2
  have c_w := a_R.wc
  refine x_iconst ho d_MW_mixing_0 ?_
  refine x_istore_n (L' := [(1, zV 1), (0, .ref x)]) ho d_MW_mixing_1 (by decide) rfl ?_
  have loop_2 : ∀ (kk : Nat) (i : Int) (i0 : 1 ≤ i ∧ i ≤ 17) (hm : mxF V.1.1 (17 - i).toNat = mxF V.1.1 16), (17 - i).toNat < kk → X M ({ frames := 5, cells := 0, slots := 0, locals := 114 } : Room) 2 (rA x (x + 137)) 0 0 (Qof M (rA x (x + 137)) (q_MW_mixing D x V) 0 0) 2 [(1, zV i), (0, .ref x)] [] H := by
    intro kk
    induction kk with
    | zero => intro i i0 hm hk; exact absurd hk (Nat.not_lt_zero _)
    | succ kk ih_2 =>
      intro i i0 hm hk_2
      refine x_iload_n ho 0 d_MW_mixing_2 rfl ?_
      refine x_bipush (z := 16) ho d_MW_mixing_3 (by decide) ?_
      refine x_icmp_gt (tgt := 30) ho d_MW_mixing_5 (by decide) (by omega) (by omega) (fun c_5 => ?_) (fun c_5 => ?_)
      ·
        refine x_bipush (z := (-5)) ho d_MW_mixing_30 (by decide) ?_
        refine x_iret ho hr d_MW_mixing_32 ?_
        exact ⟨rI (by unfold r_mixing; rw [← hm, show (17 - i).toNat = 0 by omega]; rfl), isW_mk a_o a_n a_R a_w a_k a_s a_h a_t a_r a_1 a_2 a_3 a_P a_T a_G a_M a_Z a_g⟩
      ·
        refine x_aload_n ho 1 d_MW_mixing_8 rfl ?_
        refine x_get 0 ho d_MW_mixing_9 cl_MW (by decide) g_242 a_o rfl ?_
        refine x_get 0 ho d_MW_mixing_12 cl_ST (by decide) g_122 a_n rfl ?_
        refine x_iload_n ho 0 d_MW_mixing_15 rfl ?_
        refine x_callV (rest := []) ho d_MW_mixing_16 yv_RU_mixesBy g_600 g_601 g_599 (c_RU_mixesBy M.2.1 D (x + 1 + 1) xpn V.1.1 i (by omega)) rfl rfl ⟨Nat.le_of_ble_eq_true rfl, Nat.le_of_ble_eq_true rfl⟩ ⟨Nat.le_of_ble_eq_true rfl, Nat.le_of_ble_eq_true rfl⟩ rfl rfl (Nat.le_of_ble_eq_true rfl) a_R.1 rfl rfl a_R fr_none' (x_rd (fun v_1 hv_1 => ?_))
        obtain rfl := hv_1
        show X _ _ _ _ _ _ _ _ _ [zV (bI (mixB V.1.1 i.toNat))] _
        refine x_if_eqB (tgt := 24) ho d_MW_mixing_19 (by decide) (fun c_19 => ?_) (fun c_19 => ?_)
        ·
          refine x_iinc (L' := [(1, zV (i + 1)), (0, .ref x)]) ho 0 d_MW_mixing_24 rfl rfl (by decide) rfl ?_
          refine x_goto (tgt := 2) ho d_MW_mixing_27 (by decide) ?_
          exact ih_2 (i + 1) (by omega) (by rw [← hm]; exact (mxF_f (by omega) c_19).symm) (by omega)
        ·
          refine x_iload_n ho 0 d_MW_mixing_22 rfl ?_
          refine x_iret ho hr d_MW_mixing_23 ?_
          exact ⟨rI (by unfold r_mixing; rw [← hm]; exact (mxF_t (by omega) c_19).symm), isW_mk a_o a_n a_R a_w a_k a_s a_h a_t a_r a_1 a_2 a_3 a_P a_T a_G a_M a_Z a_g⟩
  exact loop_2 _ 1 (by omega) (by rfl) (Nat.lt_succ_self _)
def q_MW_pieces (D : GG) (x : Nat) (V : WV) (z1 : Int) (z2 : Int) : Option Value → Heap → Prop := fun v0 H => v0 = some (zV (r_pieces z1 z2 V)) ∧ isW D H x V
theorem yv_MW_pieces : Yv y_MW_pieces b_MW_pieces 3 (Option.some FieldType.int) 2 := ⟨g_614, g_53, by decide, by decide +kernel⟩
set_option maxHeartbeats 4000000 in
set_option maxRecDepth 100000 in
theorem c_MW_pieces (l0 : Launch) (D : GG) (x : Nat) (V : WV) (z1 : Int) (z2 : Int) (hz1 : -2147483648 ≤ z1 ∧ z1 ≤ 2147483647) (hz2 : -2147483648 ≤ z2 ∧ z2 ≤ 2147483647) : Ct l0 D y_MW_pieces b_MW_pieces 3 (Option.some FieldType.int) ({ frames := 5, cells := 0, slots := 0, locals := 118 } : Room) [.ref x, zV z1, zV z2] (fun H => isW D H x V) (rA x (x + 137)) 0 0 (q_MW_pieces D x V z1 z2) := by
  refine Ct.of (L := [(0, .ref x), (1, zV z1), (2, zV z2)]) (by decide) (Nat.le_of_ble_eq_true rfl) rfl (fun M H ho hr hnm hH hpre => ?_)
  have hW := hpre
  obtain ⟨xpn, xp, xc, xW1, xW2, xW3, xt, xu, xfd, xg, xe1, xe2, xe3, xm1, xm2, xos, xN, xF, a_o, a_n, a_R, a_w, a_k, a_s, a_h, a_t, a_r, a_1, a_2, a_3, a_P, a_T, a_G, a_M, a_Z, a_g⟩ := id hW
  have w_b := a_w.b
  have w_w := a_w.w
  have k_b := a_k.b
  have t_b := a_t.b
  have h_b := a_h.b
  have g_1 := a_g.1.2
  have c_w := a_R.wc
  refine x_iload_n ho 1 d_MW_pieces_0 rfl ?_
  refine x_iconst ho d_MW_pieces_1 ?_
  refine x_icmp_lt (tgt := 20) ho d_MW_pieces_2 (by decide) (by omega) (by omega) (fun c_2 => ?_) (fun c_2 => ?_)
  ·
    refine x_bipush (z := (-2)) ho d_MW_pieces_20 (by decide) ?_
    refine x_iret ho hr d_MW_pieces_22 ?_
    exact ⟨rI (by unfold r_pieces; rw [cif_f (by omega)]), isW_mk a_o a_n a_R a_w a_k a_s a_h a_t a_r a_1 a_2 a_3 a_P a_T a_G a_M a_Z a_g⟩
  ·
    refine x_iload_n ho 1 d_MW_pieces_5 rfl ?_
    refine x_bipush (z := 20) ho d_MW_pieces_6 (by decide) ?_
    refine x_icmp_gt (tgt := 20) ho d_MW_pieces_8 (by decide) (by omega) (by omega) (fun c_8 => ?_) (fun c_8 => ?_)
    ·
      refine x_bipush (z := (-2)) ho d_MW_pieces_20 (by decide) ?_
      refine x_iret ho hr d_MW_pieces_22 ?_
      exact ⟨rI (by unfold r_pieces; rw [cif_f (by omega)]), isW_mk a_o a_n a_R a_w a_k a_s a_h a_t a_r a_1 a_2 a_3 a_P a_T a_G a_M a_Z a_g⟩
    ·
      refine x_iload_n ho 2 d_MW_pieces_11 rfl ?_
      refine x_if_lt (tgt := 20) ho d_MW_pieces_12 (by decide) (by omega) (fun c_12 => ?_) (fun c_12 => ?_)
      ·
        refine x_bipush (z := (-2)) ho d_MW_pieces_20 (by decide) ?_
        refine x_iret ho hr d_MW_pieces_22 ?_
        exact ⟨rI (by unfold r_pieces; rw [cif_f (by omega)]), isW_mk a_o a_n a_R a_w a_k a_s a_h a_t a_r a_1 a_2 a_3 a_P a_T a_G a_M a_Z a_g⟩
      ·
        refine x_iload_n ho 2 d_MW_pieces_15 rfl ?_
        refine x_iconst ho d_MW_pieces_16 ?_
        refine x_icmp_le (tgt := 23) ho d_MW_pieces_17 (by decide) (by omega) (by omega) (fun c_17 => ?_) (fun c_17 => ?_)
        ·
          refine x_aload_n ho 0 d_MW_pieces_23 rfl ?_
          refine x_get 10 ho d_MW_pieces_24 cl_MW (by decide) g_252 a_o rfl ?_
          refine x_aload_n ho 0 d_MW_pieces_27 rfl ?_
          refine x_get 0 ho d_MW_pieces_28 cl_MW (by decide) g_242 a_o rfl ?_
          refine x_get 1 ho d_MW_pieces_31 cl_ST (by decide) g_124 a_n rfl ?_
          refine x_iload_n ho 1 d_MW_pieces_34 rfl ?_
          refine x_iload_n ho 2 d_MW_pieces_35 rfl ?_
          refine x_callV (rest := []) ho d_MW_pieces_36 yv_PT_tell g_616 g_617 g_615 (c_PT_tell M.2.1 D (x + 128) xfd xg (x + 1 + 13) 300 V.1.2.1 z1 z2 (by omega) (by omega) (by omega)) rfl rfl ⟨Nat.le_of_ble_eq_true rfl, Nat.le_of_ble_eq_true rfl⟩ ⟨Nat.le_of_ble_eq_true rfl, Nat.le_of_ble_eq_true rfl⟩ rfl rfl (Nat.le_of_ble_eq_true rfl) a_T.1 rfl rfl ⟨a_T, a_w⟩ (rA_sub (by omega) (by omega)) (fun v_1 H_3 hv_1 f_2 => ?_)
          have k_4 := a_o.kept (f_2.2 _ a_o.lt (rA_no (by omega)))
          have k_5 := a_n.kept (f_2.2 _ a_n.lt (rA_no (by omega)))
          have k_6 := a_R.kept (fun q g1 g2 => f_2.2 q (by have := a_R.lt; omega) (rA_no (by omega)))
          have k_7 := a_k.kept (fun q g1 g2 => f_2.2 q (by have := a_k.lt; omega) (rA_no (by omega)))
          have k_8 := a_s.kept (fun q g1 g2 => f_2.2 q (by have := a_s.lt; omega) (rA_no (by omega)))
          have k_9 := a_h.kept (fun q g1 g2 => f_2.2 q (by have := a_h.lt; omega) (rA_no (by omega)))
          have k_10 := a_t.kept (fun q g1 g2 => f_2.2 q (by have := a_t.lt; omega) (rA_no (by omega)))
          have k_11 := a_r.kept (fun q g1 g2 => f_2.2 q (by have := a_r.lt; omega) (rA_no (by omega)))
          have k_12 := a_1.kept (fun q g1 g2 => f_2.2 q (by have := a_1.lt; omega) (rA_no (by omega)))
          have k_13 := a_2.kept (fun q g1 g2 => f_2.2 q (by have := a_2.lt; omega) (rA_no (by omega)))
          have k_14 := a_3.kept (fun q g1 g2 => f_2.2 q (by have := a_3.lt; omega) (rA_no (by omega)))
          have k_15 := a_P.kept (fun q g1 g2 => f_2.2 q (by have := a_P.lt; omega) (rA_no (by omega)))
          have k_16 := a_G.kept (fun q g1 g2 => f_2.2 q (by have := a_G.lt; omega) (rA_no (by omega)))
          have k_17 := a_M.kept (fun q g1 g2 => f_2.2 q (by have := a_M.lt; omega) (rA_no (by omega)))
          have k_18 := a_Z.kept (fun q g1 g2 => f_2.2 q (by have := a_Z.lt; omega) (rA_no (by omega)))
          obtain ⟨f3_19, g3_20, rfl, hT_21, hL_22⟩ := hv_1
          show X _ _ _ _ _ _ _ _ _ [zV (pcs V.1.2.1 z1 z2)] _
          refine x_iret ho hr d_MW_pieces_39 ?_
          exact ⟨rI (by unfold r_pieces; rw [cif_t (by omega)]), isW_mk k_4 k_5 k_6 hL_22 k_7 k_8 k_9 k_10 k_11 k_12 k_13 k_14 k_15 hT_21 k_16 k_17 k_18 a_g⟩
        ·
          refine x_bipush (z := (-2)) ho d_MW_pieces_20 (by decide) ?_
          refine x_iret ho hr d_MW_pieces_22 ?_
          exact ⟨rI (by unfold r_pieces; rw [cif_f (by omega)]), isW_mk a_o a_n a_R a_w a_k a_s a_h a_t a_r a_1 a_2 a_3 a_P a_T a_G a_M a_Z a_g⟩
