def q_ST_hasPiece (D : GG) (s : Nat) (v : SV) : Option Value → Heap → Prop := fun v0 H => v0 = some (zV (bI (0 < (v.2.2.length : Int))))
theorem yv_ST_hasPiece : Yv y_ST_hasPiece b_ST_hasPiece 1 (Option.some FieldType.boolean) 0 := ⟨g_718, g_54, by decide, by decide +kernel⟩
set_option maxHeartbeats 4000000 in
set_option maxRecDepth 100000 in
theorem c_ST_hasPiece (l0 : Launch) (D : GG) (s : Nat) (v : SV)  : Ct l0 D y_ST_hasPiece b_ST_hasPiece 1 (Option.some FieldType.boolean) ({ frames := 1, cells := 0, slots := 0, locals := 20 } : Room) [.ref s] (fun H => isS D H s v) nA 0 0 (q_ST_hasPiece D s v) := by
  refine Ct.of (L := [(0, .ref s)]) (by decide) (Nat.le_of_ble_eq_true rfl) rfl (fun M H ho hr hnm hH hpre => ?_)
  have hS := hpre
  obtain ⟨ao, ⟨ap, aR⟩, aw, ak⟩ := id hS
  have hb := ak.b
  refine x_aload_n ho 0 d_ST_hasPiece_0 rfl ?_
  refine x_get 2 ho d_ST_hasPiece_1 cl_ST (by decide) g_125 ao rfl ?_
  refine x_callV (rest := []) ho d_ST_hasPiece_4 yv_LE_length g_323 g_324 g_719 (c_LE_length M.2.1 D (s + 15) 20 v.2.2 ) rfl rfl ⟨Nat.le_of_ble_eq_true rfl, Nat.le_of_ble_eq_true rfl⟩ ⟨Nat.le_of_ble_eq_true rfl, Nat.le_of_ble_eq_true rfl⟩ rfl rfl (Nat.le_of_ble_eq_true rfl) ak.1 rfl rfl ak fr_none' (x_rd (fun v_1 hv_1 => ?_))
  obtain rfl := hv_1
  show X _ _ _ _ _ _ _ _ _ [zV ((v.2.2.length : Int))] _
  refine x_if_le (tgt := 14) ho d_ST_hasPiece_7 (by decide) (by omega) (fun c_7 => ?_) (fun c_7 => ?_)
  ·
    refine x_iconst ho d_ST_hasPiece_14 ?_
    refine x_zret ho hr (Or.inl rfl) d_ST_hasPiece_15 ?_
    exact rF (by omega)
  ·
    refine x_iconst ho d_ST_hasPiece_10 ?_
    refine x_goto (tgt := 15) ho d_ST_hasPiece_11 (by decide) ?_
    refine x_zret ho hr (Or.inr rfl) d_ST_hasPiece_15 ?_
    exact rT (by omega)
def q_ST_become (D : GG) (s : Nat) (v : SV) (t : Nat) (u : SV) : Option Value → Heap → Prop := fun v0 H => v0 = none ∧ isS D H s u ∧ isS D H t u
theorem yv_ST_become : Yv y_ST_become b_ST_become 2 (Option.none : Option FieldType) 1 := ⟨g_356, g_54, by decide, by decide +kernel⟩
set_option maxHeartbeats 4000000 in
set_option maxRecDepth 100000 in
theorem c_ST_become (l0 : Launch) (D : GG) (s : Nat) (v : SV) (t : Nat) (u : SV) (hd : s + 17 ≤ t ∨ t + 17 ≤ s) : Ct l0 D y_ST_become b_ST_become 2 (Option.none : Option FieldType) ({ frames := 3, cells := 0, slots := 0, locals := 104 } : Room) [.ref s, .ref t] (fun H => isS D H s v ∧ isS D H t u) (rA s (s + 17)) 0 0 (q_ST_become D s v t u) := by
  refine Ct.of (L := [(0, .ref s), (1, .ref t)]) (by decide) (Nat.le_of_ble_eq_true rfl) rfl (fun M H ho hr hnm hH hpre => ?_)
  obtain ⟨hS, hT⟩ := hpre
  obtain ⟨ao, ⟨ap, aR⟩, aw, ak⟩ := id hS
  obtain ⟨bo, ⟨bp, bR⟩, bw, bk⟩ := id hT
  have hwb := bw.b
  have hkb := bk.b
  refine x_aload_n ho 0 d_ST_become_0 rfl ?_
  refine x_get 0 ho d_ST_become_1 cl_ST (by decide) g_121 ao rfl ?_
  refine x_aload_n ho 1 d_ST_become_4 rfl ?_
  refine x_get 0 ho d_ST_become_5 cl_ST (by decide) g_121 bo rfl ?_
  refine x_callV (rest := []) ho d_ST_become_8 yv_RU_become g_290 g_291 g_357 (c_RU_become M.2.1 D (s + 1) ap v.1 (t + 1) bp u.1 (by omega)) rfl rfl ⟨Nat.le_of_ble_eq_true rfl, Nat.le_of_ble_eq_true rfl⟩ ⟨Nat.le_of_ble_eq_true rfl, Nat.le_of_ble_eq_true rfl⟩ rfl rfl (Nat.le_of_ble_eq_true rfl) aR.1 rfl rfl ⟨aR, bR⟩ (rA_sub (by omega) (by omega)) (fun v_1 H_3 hv_1 f_2 => ?_)
  have k_4 := ao.kept (f_2.2 _ ao.lt (rA_no (by omega)))
  have k_5 := aw.kept (fun q g1 g2 => f_2.2 q (by have := aw.lt; omega) (rA_no (by omega)))
  have k_6 := ak.kept (fun q g1 g2 => f_2.2 q (by have := ak.lt; omega) (rA_no (by omega)))
  have k_7 := bo.kept (f_2.2 _ bo.lt (rA_no (by omega)))
  have k_8 := bw.kept (fun q g1 g2 => f_2.2 q (by have := bw.lt; omega) (rA_no (by omega)))
  have k_9 := bk.kept (fun q g1 g2 => f_2.2 q (by have := bk.lt; omega) (rA_no (by omega)))
  obtain ⟨rfl, hR_10, hS_11⟩ := hv_1
  show X _ _ _ _ _ _ _ _ _ [] _
  refine x_aload_n ho 0 d_ST_become_11 rfl ?_
  refine x_get 1 ho d_ST_become_12 cl_ST (by decide) g_123 k_4 rfl ?_
  refine x_aload_n ho 1 d_ST_become_15 rfl ?_
  refine x_get 1 ho d_ST_become_16 cl_ST (by decide) g_123 k_7 rfl ?_
  refine x_callV (rest := []) ho d_ST_become_19 yv_LE_become g_298 g_299 g_358 (c_LE_become M.2.1 D (s + 13) 300 v.2.1 (t + 13) 300 u.2.1 (by omega) (by omega)) rfl rfl ⟨Nat.le_of_ble_eq_true rfl, Nat.le_of_ble_eq_true rfl⟩ ⟨Nat.le_of_ble_eq_true rfl, Nat.le_of_ble_eq_true rfl⟩ rfl rfl (Nat.le_of_ble_eq_true rfl) k_5.1 rfl rfl ⟨k_5, k_8⟩ (rA_sub (by omega) (by omega)) (fun v_12 H_14 hv_12 f_13 => ?_)
  have k_15 := k_4.kept (f_13.2 _ k_4.lt (rA_no (by omega)))
  have k_16 := k_6.kept (fun q g1 g2 => f_13.2 q (by have := k_6.lt; omega) (rA_no (by omega)))
  have k_17 := k_7.kept (f_13.2 _ k_7.lt (rA_no (by omega)))
  have k_18 := k_9.kept (fun q g1 g2 => f_13.2 q (by have := k_9.lt; omega) (rA_no (by omega)))
  have k_19 := hR_10.kept (fun q g1 g2 => f_13.2 q (by have := hR_10.lt; omega) (rA_no (by omega)))
  have k_20 := hS_11.kept (fun q g1 g2 => f_13.2 q (by have := hS_11.lt; omega) (rA_no (by omega)))
  obtain ⟨rfl, hL_21, hK_22⟩ := hv_12
  show X _ _ _ _ _ _ _ _ _ [] _
  refine x_aload_n ho 0 d_ST_become_22 rfl ?_
  refine x_get 2 ho d_ST_become_23 cl_ST (by decide) g_125 k_15 rfl ?_
  refine x_aload_n ho 1 d_ST_become_26 rfl ?_
  refine x_get 2 ho d_ST_become_27 cl_ST (by decide) g_125 k_17 rfl ?_
  refine x_callV (rest := []) ho d_ST_become_30 yv_LE_become g_298 g_299 g_358 (c_LE_become M.2.1 D (s + 15) 20 v.2.2 (t + 15) 20 u.2.2 (by omega) (by omega)) rfl rfl ⟨Nat.le_of_ble_eq_true rfl, Nat.le_of_ble_eq_true rfl⟩ ⟨Nat.le_of_ble_eq_true rfl, Nat.le_of_ble_eq_true rfl⟩ rfl rfl (Nat.le_of_ble_eq_true rfl) k_16.1 rfl rfl ⟨k_16, k_18⟩ (rA_sub (by omega) (by omega)) (fun v_23 H_25 hv_23 f_24 => ?_)
  have k_26 := k_15.kept (f_24.2 _ k_15.lt (rA_no (by omega)))
  have k_27 := k_17.kept (f_24.2 _ k_17.lt (rA_no (by omega)))
  have k_28 := k_19.kept (fun q g1 g2 => f_24.2 q (by have := k_19.lt; omega) (rA_no (by omega)))
  have k_29 := k_20.kept (fun q g1 g2 => f_24.2 q (by have := k_20.lt; omega) (rA_no (by omega)))
  have k_30 := hL_21.kept (fun q g1 g2 => f_24.2 q (by have := hL_21.lt; omega) (rA_no (by omega)))
  have k_31 := hK_22.kept (fun q g1 g2 => f_24.2 q (by have := hK_22.lt; omega) (rA_no (by omega)))
  obtain ⟨rfl, hL_32, hK_33⟩ := hv_23
  show X _ _ _ _ _ _ _ _ _ [] _
  refine x_vret ho hr d_ST_become_33 ?_
  exact ⟨rfl, ⟨k_26, ⟨_, k_28⟩, k_30, hL_32⟩, ⟨k_27, ⟨_, k_29⟩, k_31, hK_33⟩⟩
def q_HI_held (D : GG) (h : Nat) (l : List SV) : Option Value → Heap → Prop := fun v0 H => v0 = some (zV ((l.length : Int))) ∧ (0 ≤ (l.length : Int) ∧ (l.length : Int) ≤ 4)
theorem yv_HI_held : Yv y_HI_held b_HI_held 1 (Option.some FieldType.int) 0 := ⟨g_533, g_58, by decide, by decide +kernel⟩
set_option maxHeartbeats 4000000 in
set_option maxRecDepth 100000 in
theorem c_HI_held (l0 : Launch) (D : GG) (h : Nat) (l : List SV)  : Ct l0 D y_HI_held b_HI_held 1 (Option.some FieldType.int) ({ frames := 0, cells := 0, slots := 0, locals := 0 } : Room) [.ref h] (fun H => isHL D H h l) nA 0 0 (q_HI_held D h l) := by
  refine Ct.of (L := [(0, .ref h)]) (by decide) (Nat.le_of_ble_eq_true rfl) rfl (fun M H ho hr hnm hH hpre => ?_)
  have hX := hpre
  obtain ⟨hn, q, f, ⟨h_o, h_a, h_q⟩, h_f⟩ := id hX
  refine x_aload_n ho 0 d_HI_held_0 rfl ?_
  refine x_get 1 ho d_HI_held_1 cl_HI (by decide) g_143 h_o rfl ?_
  refine x_iret ho hr d_HI_held_4 ?_
  exact ⟨rfl, (by omega)⟩
def q_HI_dropOldest (D : GG) (h : Nat) (q : Int → Nat) (f : Int → SV) (n : Int) : Option Value → Heap → Prop := fun v0 H => v0 = none ∧ isH D H h (fun i => q (rotS i)) (fun i => f (rotS i)) 3
theorem yv_HI_dropOldest : Yv y_HI_dropOldest b_HI_dropOldest 3 (Option.none : Option FieldType) 0 := ⟨g_352, g_58, by decide, by decide +kernel⟩
set_option maxHeartbeats 4000000 in
set_option maxRecDepth 100000 in
theorem c_HI_dropOldest (l0 : Launch) (D : GG) (h : Nat) (q : Int → Nat) (f : Int → SV) (n : Int)  : Ct l0 D y_HI_dropOldest b_HI_dropOldest 3 (Option.none : Option FieldType) ({ frames := 0, cells := 0, slots := 0, locals := 0 } : Room) [.ref h] (fun H => isH D H h q f n) (rA h (h + 70)) 0 0 (q_HI_dropOldest D h q f n) := by
  refine Ct.of (L := [(0, .ref h)]) (by decide) (Nat.le_of_ble_eq_true rfl) rfl (fun M H ho hr hnm hH hpre => ?_)
  have hH1 := hpre
  obtain ⟨h_o, h_a, h_q⟩ := id hH1
  refine x_aload_n ho 0 d_HI_dropOldest_0 rfl ?_
  refine x_get 0 ho d_HI_dropOldest_1 cl_HI (by decide) g_142 h_o rfl ?_
  refine x_iconst ho d_HI_dropOldest_4 ?_
  refine x_aald (b := q 0) ho d_HI_dropOldest_5 h_a rfl (by omega) (by omega) (by omega) (by rfl) ?_
  refine x_astore_n (L' := [(1, .ref (q 0)), (0, .ref h)]) ho d_HI_dropOldest_6 (by decide) rfl ?_
  refine x_iconst ho d_HI_dropOldest_7 ?_
  refine x_istore_n (L' := [(2, zV 1), (1, .ref (q 0)), (0, .ref h)]) ho d_HI_dropOldest_8 (by decide) rfl ?_
  have loop_9 : ∀ (kk : Nat) (i : Int) (g : Int → Option Nat) (H_1 : Heap) (k_o : At D H_1 h (oO 1 [.ref (h + 1), zV n])) (k_a : At D H_1 (h + 1) (oR D 4 4 g)) (k_q : isQ D H_1 h q f) (i0 : 1 ≤ i ∧ i ≤ 4) (hg : ∀ j : Int, 0 ≤ j → j < 4 → g j = some (q (if j < i - 1 then j + 1 else j))), (4 - i).toNat < kk → X M ({ frames := 0, cells := 0, slots := 0, locals := 0 } : Room) 3 (rA h (h + 70)) 0 0 (Qof M (rA h (h + 70)) (q_HI_dropOldest D h q f n) 0 0) 9 [(2, zV i), (1, .ref (q 0)), (0, .ref h)] [] H_1 := by
    intro kk
    induction kk with
    | zero => intro i g H_1 k_o k_a k_q i0 hg hk; exact absurd hk (Nat.not_lt_zero _)
    | succ kk ih_9 =>
      intro i g H_1 k_o k_a k_q i0 hg hk_9
      refine x_iload_n ho 0 d_HI_dropOldest_9 rfl ?_
      refine x_iconst ho d_HI_dropOldest_10 ?_
      refine x_icmp_ge (tgt := 34) ho d_HI_dropOldest_11 (by decide) (by omega) (by omega) (fun c_11 => ?_) (fun c_11 => ?_)
      ·
        refine x_aload_n ho 2 d_HI_dropOldest_34 rfl ?_
        have hs_2 : isS D H_1 (q 0) (f 0) := (k_q).1 0 (by omega) (by omega)
        refine x_get 0 ho d_HI_dropOldest_35 cl_HI (by decide) g_142 k_o rfl ?_
        refine x_iconst ho d_HI_dropOldest_38 ?_
        refine x_aload_n ho 1 d_HI_dropOldest_39 rfl ?_
        have hb := k_q.2.1 0 (by omega) (by omega)
        refine x_aast ho d_HI_dropOldest_40 k_a rfl hs_2.1 rfl (by omega) (by omega) (by omega) (rA_in (by omega) (by omega)) (fun H_3 p_4 z_5 q_6 => ?_)
        have k_7 := k_o.kept (q_6 _ (by omega))
        have k_8 := k_q.kept (fun q g1 g2 => q_6 q (by omega))
        have k_9 := hs_2.kept (fun q g1 g2 => q_6 q (by omega))
        refine x_aload_n ho 2 d_HI_dropOldest_41 rfl ?_
        refine x_iconst ho d_HI_dropOldest_42 ?_
        refine x_put 1 ho d_HI_dropOldest_43 cl_HI (by decide) g_143 k_7 rfl rfl rfl (Nat.le_of_ble_eq_true rfl) (rA_in (by omega) (by omega)) (fun H_10 p_11 z_12 q_13 => ?_)
        have k_14 := k_8.kept (fun q g1 g2 => q_13 q (by omega))
        have k_15 := k_9.kept (fun q g1 g2 => q_13 q (by omega))
        have k_16 := p_4.kept (q_13 _ (by omega))
        refine x_vret ho hr d_HI_dropOldest_46 ?_
        refine ⟨rfl, p_11, ?_, isQ_rot k_14⟩
        have e : zU g 3 (some (q 0)) = fun i => if 0 ≤ i ∧ i < 4 then some (q (rotS i)) else g i := by
          funext j
          by_cases h : j = 3
          · subst h; rw [zU_s, if_pos (by omega)]; rfl
          · rw [zU_n _ _ h]
            by_cases h2 : 0 ≤ j ∧ j < 4
            · rw [if_pos h2, hg j h2.1 h2.2, if_pos (by omega)]; unfold rotS; rw [if_neg h]
            · rw [if_neg h2]
        have h9 := k_16
        rw [e] at h9
        exact at_q4 h9 (fun j h0 h1 => if_pos ⟨h0, h1⟩)
      ·
        refine x_aload_n ho 2 d_HI_dropOldest_14 rfl ?_
        refine x_get 0 ho d_HI_dropOldest_15 cl_HI (by decide) g_142 k_o rfl ?_
        refine x_iload_n ho 0 d_HI_dropOldest_18 rfl ?_
        refine x_iconst ho d_HI_dropOldest_19 ?_
        refine x_isub ho d_HI_dropOldest_20 ?_
        refine x_aload_n ho 2 d_HI_dropOldest_21 rfl ?_
        refine x_get 0 ho d_HI_dropOldest_22 cl_HI (by decide) g_142 k_o rfl ?_
        refine x_iload_n ho 0 d_HI_dropOldest_25 rfl ?_
        refine x_aald (b := q i) ho d_HI_dropOldest_26 k_a rfl (by omega) (by omega) (by omega) (by rw [hg i (by omega) (by omega), if_neg (by omega)]) ?_
        have hs_17 : isS D H_1 (q i) (f i) := (k_q).1 i (by omega) (by omega)
        have hb := k_q.2.1 i (by omega) (by omega)
        refine x_aast ho d_HI_dropOldest_27 k_a rfl hs_17.1 rfl (by omega) (by omega) (by omega) (rA_in (by omega) (by omega)) (fun H_18 p_19 z_20 q_21 => ?_)
        have k_22 := k_o.kept (q_21 _ (by omega))
        have k_23 := k_q.kept (fun q g1 g2 => q_21 q (by omega))
        have k_24 := hs_17.kept (fun q g1 g2 => q_21 q (by omega))
        refine x_iinc (L' := [(2, zV (i + 1)), (1, .ref (q 0)), (0, .ref h)]) ho 0 d_HI_dropOldest_28 rfl rfl (by decide) rfl ?_
        refine x_goto (tgt := 9) ho d_HI_dropOldest_31 (by decide) ?_
        exact ih_9 (i + 1) (zU g (i - 1) (some (q i))) H_18 k_22 p_19 k_23 (by omega) (by
            intro j h0 h1
            by_cases h : j = i - 1
            · subst h; rw [zU_s, if_pos (by omega)]; congr 2; omega
            · rw [zU_n _ _ h, hg j h0 h1]
              by_cases h2 : j < i - 1
              · rw [if_pos h2, if_pos (by omega)]
              · rw [if_neg h2, if_neg (by omega)]) (by omega)
  exact loop_9 _ 1 (fun i => some (q i)) H h_o h_a h_q (by omega) (by intro j h0 h1; rw [if_neg (by omega)]) (Nat.lt_succ_self _)
def q_HI_record (D : GG) (h : Nat) (l : List SV) (s : Nat) (v : SV) : Option Value → Heap → Prop := fun v0 H => v0 = none ∧ isHL D H h (recH l v) ∧ isS D H s v
theorem yv_HI_record : Yv y_HI_record b_HI_record 2 (Option.none : Option FieldType) 1 := ⟨g_349, g_58, by decide, by decide +kernel⟩
set_option maxHeartbeats 4000000 in
set_option maxRecDepth 100000 in
theorem c_HI_record (l0 : Launch) (D : GG) (h : Nat) (l : List SV) (s : Nat) (v : SV) (hd : h + 70 ≤ s ∨ s + 17 ≤ h) : Ct l0 D y_HI_record b_HI_record 2 (Option.none : Option FieldType) ({ frames := 4, cells := 0, slots := 0, locals := 125 } : Room) [.ref h, .ref s] (fun H => isHL D H h l ∧ isS D H s v) (rA h (h + 70)) 0 0 (q_HI_record D h l s v) := by
  refine Ct.of (L := [(0, .ref h), (1, .ref s)]) (by decide) (Nat.le_of_ble_eq_true rfl) rfl (fun M H ho hr hnm hH hpre => ?_)
  obtain ⟨hX, hS⟩ := hpre
  obtain ⟨hn, q, f, hH1, h_f⟩ := id hX
  refine x_aload_n ho 0 d_HI_record_0 rfl ?_
  refine x_get 1 ho d_HI_record_1 cl_HI (by decide) g_143 hH1.1 rfl ?_
  refine x_iconst ho d_HI_record_4 ?_
  refine x_icmp_lt (tgt := 12) ho d_HI_record_5 (by decide) (by omega) (by omega) (fun c_5 => ?_) (fun c_5 => ?_)
  ·
    obtain ⟨h_o, h_a, h_q⟩ := id hH1
    have hs1 := h_q.1 ((l.length : Int)) (by omega) (by omega)
    have hb := h_q.2.1 ((l.length : Int)) (by omega) (by omega)
    refine x_aload_n ho 0 d_HI_record_12 rfl ?_
    refine x_get 0 ho d_HI_record_13 cl_HI (by decide) g_142 h_o rfl ?_
    refine x_aload_n ho 0 d_HI_record_16 rfl ?_
    refine x_get 1 ho d_HI_record_17 cl_HI (by decide) g_143 h_o rfl ?_
    refine x_aald (b := q ((l.length : Int))) ho d_HI_record_20 h_a rfl (by omega) (by omega) (by omega) (by rfl) ?_
    refine x_aload_n ho 1 d_HI_record_21 rfl ?_
    refine x_callV (rest := []) ho d_HI_record_22 yv_ST_become g_354 g_355 g_353 (c_ST_become M.2.1 D (q ((l.length : Int))) (f ((l.length : Int))) s v (by omega)) rfl rfl ⟨Nat.le_of_ble_eq_true rfl, Nat.le_of_ble_eq_true rfl⟩ ⟨Nat.le_of_ble_eq_true rfl, Nat.le_of_ble_eq_true rfl⟩ rfl rfl (Nat.le_of_ble_eq_true rfl) hs1.1 rfl rfl ⟨hs1, hS⟩ (rA_sub (by omega) (by omega)) (fun v_1 H_3 hv_1 f_2 => ?_)
    have k_4 := h_o.kept (f_2.2 _ h_o.lt (rA_no (by omega)))
    have k_5 := h_a.kept (f_2.2 _ h_a.lt (rA_no (by omega)))
    obtain ⟨rfl, hS_6, hT_7⟩ := hv_1
    have r_8 : isQ D H_3 h q (zU f ((l.length : Int)) v) := isQ_set h_q (by omega) (by omega) hS_6 f_2
    show X _ _ _ _ _ _ _ _ _ [] _
    refine x_aload_n ho 0 d_HI_record_25 rfl ?_
    refine x_dup ho d_HI_record_26 rfl ?_
    refine x_get 1 ho d_HI_record_27 cl_HI (by decide) g_143 k_4 rfl ?_
    refine x_iconst ho d_HI_record_30 ?_
    refine x_iadd ho d_HI_record_31 ?_
    refine x_put 1 ho d_HI_record_32 cl_HI (by decide) g_143 k_4 rfl rfl rfl (Nat.le_of_ble_eq_true rfl) (rA_in (by omega) (by omega)) (fun H_9 p_10 z_11 q_12 => ?_)
    have k_13 := k_5.kept (q_12 _ (by omega))
    have k_14 := hT_7.kept (fun q g1 g2 => q_12 q (by omega))
    have k_15 := r_8.kept (fun q g1 g2 => q_12 q (by omega))
    refine x_vret ho hr d_HI_record_35 ?_
    have e : recH l v = l ++ [v] := if_pos (by omega)
    have e2 : ((l ++ [v]).length : Int) = (l.length : Int) + 1 := by simp
    refine ⟨rfl, ?_, k_14⟩
    rw [e]
    refine ⟨by rw [List.length_append]; simp; omega, _, _, ⟨by rw [e2]; exact p_10, k_13, k_15⟩, fun j h0 h1 => ?_⟩
    by_cases hj : j = (l.length : Int)
    · subst hj; rw [zU_s, gH_snoc]
    · rw [zU_n _ _ hj, gH_app1 h0 (by omega)]; exact h_f j h0 (by omega)
  ·
    refine x_aload_n ho 0 d_HI_record_8 rfl ?_
    refine x_callV (rest := []) ho d_HI_record_9 yv_HI_dropOldest g_351 g_3 g_350 (c_HI_dropOldest M.2.1 D h q f ((l.length : Int)) ) rfl rfl ⟨Nat.le_of_ble_eq_true rfl, Nat.le_of_ble_eq_true rfl⟩ ⟨Nat.le_of_ble_eq_true rfl, Nat.le_of_ble_eq_true rfl⟩ rfl rfl (Nat.le_of_ble_eq_true rfl) hH1.1 rfl rfl hH1 (rA_sub (by omega) (by omega)) (fun v_16 H_18 hv_16 f_17 => ?_)
    have k_19 := hS.kept (fun q g1 g2 => f_17.2 q (by have := hS.lt; omega) (rA_no (by omega)))
    obtain ⟨rfl, hH1_20⟩ := hv_16
    show X _ _ _ _ _ _ _ _ _ [] _
    obtain ⟨h_o, h_a, h_q⟩ := id hH1_20
    have hs1 : isS D _ (q (rotS 3)) (f (rotS 3)) := h_q.1 3 (by omega) (by omega)
    have hb : h + 2 ≤ q (rotS 3) ∧ q (rotS 3) + 17 ≤ h + 70 := h_q.2.1 3 (by omega) (by omega)
    refine x_aload_n ho 0 d_HI_record_12 rfl ?_
    refine x_get 0 ho d_HI_record_13 cl_HI (by decide) g_142 h_o rfl ?_
    refine x_aload_n ho 0 d_HI_record_16 rfl ?_
    refine x_get 1 ho d_HI_record_17 cl_HI (by decide) g_143 h_o rfl ?_
    refine x_aald (b := q (rotS 3)) ho d_HI_record_20 h_a rfl (by omega) (by omega) (by omega) (by rfl) ?_
    refine x_aload_n ho 1 d_HI_record_21 rfl ?_
    refine x_callV (rest := []) ho d_HI_record_22 yv_ST_become g_354 g_355 g_353 (c_ST_become M.2.1 D (q (rotS 3)) (f (rotS 3)) s v (by omega)) rfl rfl ⟨Nat.le_of_ble_eq_true rfl, Nat.le_of_ble_eq_true rfl⟩ ⟨Nat.le_of_ble_eq_true rfl, Nat.le_of_ble_eq_true rfl⟩ rfl rfl (Nat.le_of_ble_eq_true rfl) hs1.1 rfl rfl ⟨hs1, k_19⟩ (rA_sub (by omega) (by omega)) (fun v_21 H_23 hv_21 f_22 => ?_)
    have k_24 := h_o.kept (f_22.2 _ h_o.lt (rA_no (by omega)))
    have k_25 := h_a.kept (f_22.2 _ h_a.lt (rA_no (by omega)))
    obtain ⟨rfl, hS_26, hT_27⟩ := hv_21
    have r_28 : isQ D H_23 h (fun i => q (rotS i)) (zU (fun i => f (rotS i)) 3 v) := isQ_set h_q (by omega) (by omega) hS_26 f_22
    show X _ _ _ _ _ _ _ _ _ [] _
    refine x_aload_n ho 0 d_HI_record_25 rfl ?_
    refine x_dup ho d_HI_record_26 rfl ?_
    refine x_get 1 ho d_HI_record_27 cl_HI (by decide) g_143 k_24 rfl ?_
    refine x_iconst ho d_HI_record_30 ?_
    refine x_iadd ho d_HI_record_31 ?_
    refine x_put 1 ho d_HI_record_32 cl_HI (by decide) g_143 k_24 rfl rfl rfl (Nat.le_of_ble_eq_true rfl) (rA_in (by omega) (by omega)) (fun H_29 p_30 z_31 q_32 => ?_)
    have k_33 := k_25.kept (q_32 _ (by omega))
    have k_34 := hT_27.kept (fun q g1 g2 => q_32 q (by omega))
    have k_35 := r_28.kept (fun q g1 g2 => q_32 q (by omega))
    refine x_vret ho hr d_HI_record_35 ?_
    have e : recH l v = l.drop 1 ++ [v] := if_neg (by omega)
    have e1 : ((l.drop 1).length : Int) = 3 := by rw [List.length_drop]; omega
    have e2 : ((l.drop 1 ++ [v]).length : Int) = 3 + 1 := by rw [List.length_append]; simp; omega
    refine ⟨rfl, ?_, k_34⟩
    rw [e]
    refine ⟨by omega, _, _, ⟨by rw [e2]; exact p_30, k_33, k_35⟩, fun j h0 h1 => ?_⟩
    by_cases hj : j = 3
    · subst hj; rw [zU_s, show (3 : Int) = ((l.drop 1).length : Int) from e1.symm, gH_snoc]
    · rw [zU_n _ _ hj, gH_app1 h0 (by omega), gH_drop h0]
      show f (rotS j) = _
      unfold rotS; rw [if_neg hj]; exact h_f (j + 1) (by omega) (by omega)
def q_HI_takeBack (D : GG) (h : Nat) (l : List SV) (s : Nat) (v : SV) : Option Value → Heap → Prop := fun v0 H => (v0 = some (zV 0) ∧ l = [] ∧ isHL D H h l ∧ isS D H s v) ∨ (v0 = some (zV 1) ∧ l ≠ [] ∧ isHL D H h l.dropLast ∧ isS D H s (gH l ((l.length : Int) - 1)))
theorem yv_HI_takeBack : Yv y_HI_takeBack b_HI_takeBack 2 (Option.some FieldType.boolean) 1 := ⟨g_529, g_58, by decide, by decide +kernel⟩
set_option maxHeartbeats 4000000 in
set_option maxRecDepth 100000 in
theorem c_HI_takeBack (l0 : Launch) (D : GG) (h : Nat) (l : List SV) (s : Nat) (v : SV) (hd : h + 70 ≤ s ∨ s + 17 ≤ h) : Ct l0 D y_HI_takeBack b_HI_takeBack 2 (Option.some FieldType.boolean) ({ frames := 4, cells := 0, slots := 0, locals := 125 } : Room) [.ref h, .ref s] (fun H => isHL D H h l ∧ isS D H s v) (fun z => rA h (h + 70) z ∨ rA s (s + 17) z) 0 0 (q_HI_takeBack D h l s v) := by
  refine Ct.of (L := [(0, .ref h), (1, .ref s)]) (by decide) (Nat.le_of_ble_eq_true rfl) rfl (fun M H ho hr hnm hH hpre => ?_)
  obtain ⟨hX, hS⟩ := hpre
  obtain ⟨hn, q, f, ⟨h_o, h_a, h_q⟩, h_f⟩ := id hX
  refine x_aload_n ho 0 d_HI_takeBack_0 rfl ?_
  refine x_get 1 ho d_HI_takeBack_1 cl_HI (by decide) g_143 h_o rfl ?_
  refine x_iconst ho d_HI_takeBack_4 ?_
  refine x_icmp_ge (tgt := 10) ho d_HI_takeBack_5 (by decide) (by omega) (by omega) (fun c_5 => ?_) (fun c_5 => ?_)
  ·
    refine x_aload_n ho 0 d_HI_takeBack_10 rfl ?_
    refine x_dup ho d_HI_takeBack_11 rfl ?_
    refine x_get 1 ho d_HI_takeBack_12 cl_HI (by decide) g_143 h_o rfl ?_
    refine x_iconst ho d_HI_takeBack_15 ?_
    refine x_isub ho d_HI_takeBack_16 ?_
    refine x_put 1 ho d_HI_takeBack_17 cl_HI (by decide) g_143 h_o rfl rfl rfl (Nat.le_of_ble_eq_true rfl) (Or.inl (rA_in (by omega) (by omega))) (fun H_1 p_2 z_3 q_4 => ?_)
    have k_5 := hS.kept (fun q g1 g2 => q_4 q (by omega))
    have k_6 := h_a.kept (q_4 _ (by omega))
    have k_7 := h_q.kept (fun q g1 g2 => q_4 q (by omega))
    refine x_aload_n ho 1 d_HI_takeBack_20 rfl ?_
    refine x_aload_n ho 0 d_HI_takeBack_21 rfl ?_
    refine x_get 0 ho d_HI_takeBack_22 cl_HI (by decide) g_142 p_2 rfl ?_
    refine x_aload_n ho 0 d_HI_takeBack_25 rfl ?_
    refine x_get 1 ho d_HI_takeBack_26 cl_HI (by decide) g_143 p_2 rfl ?_
    refine x_aald (b := q ((l.length : Int) - 1)) ho d_HI_takeBack_29 k_6 rfl (by omega) (by omega) (by omega) (by rfl) ?_
    have hs_8 : isS D H_1 (q ((l.length : Int) - 1)) (f ((l.length : Int) - 1)) := (k_7).1 _ (by omega) (by omega)
    have hb := h_q.2.1 ((l.length : Int) - 1) (by omega) (by omega)
    refine x_callV (rest := []) ho d_HI_takeBack_30 yv_ST_become g_354 g_355 g_353 (c_ST_become M.2.1 D s v (q ((l.length : Int) - 1)) (f ((l.length : Int) - 1)) (by omega)) rfl rfl ⟨Nat.le_of_ble_eq_true rfl, Nat.le_of_ble_eq_true rfl⟩ ⟨Nat.le_of_ble_eq_true rfl, Nat.le_of_ble_eq_true rfl⟩ rfl rfl (Nat.le_of_ble_eq_true rfl) k_5.1 rfl rfl ⟨k_5, hs_8⟩ (fun z hz => Or.inr hz) (fun v_9 H_11 hv_9 f_10 => ?_)
    have k_12 := k_6.kept (f_10.2 _ k_6.lt (rA_no (by omega)))
    have k_13 := k_7.kept (fun q g1 g2 => f_10.2 q (by have := k_7.lt; omega) (rA_no (by omega)))
    have k_14 := p_2.kept (f_10.2 _ p_2.lt (rA_no (by omega)))
    obtain ⟨rfl, hS_15, hT_16⟩ := hv_9
    show X _ _ _ _ _ _ _ _ _ [] _
    refine x_iconst ho d_HI_takeBack_33 ?_
    refine x_zret ho hr (Or.inr rfl) d_HI_takeBack_34 ?_
    have hne : l ≠ [] := fun e => by subst e; simp at c_5
    have e2 : (l.dropLast.length : Int) = (l.length : Int) - 1 := by rw [List.length_dropLast]; omega
    refine Or.inr ⟨rfl, hne, ⟨by omega, _, _, ⟨by rw [e2]; exact k_14, k_12, k_13⟩, fun j h0 h1 => ?_⟩, by rw [← h_f _ (by omega) (by omega)]; exact hS_15⟩
    rw [gH_dropLast h0 (by omega)]
    exact h_f j h0 (by omega)
  ·
    refine x_iconst ho d_HI_takeBack_8 ?_
    refine x_zret ho hr (Or.inl rfl) d_HI_takeBack_9 ?_
    exact Or.inl ⟨rfl, List.eq_nil_of_length_eq_zero (by omega), hX, hS⟩
