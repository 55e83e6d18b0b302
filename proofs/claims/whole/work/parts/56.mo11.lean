def q_MO_isLetter (D : GG) (m : Nat) (kp : Int) (fl : Int) (fo : Int) (di : Int) (az : Int) (L : List Int) : Option Value → Heap → Prop := fun v0 H => (v0 = some (zV (bI (az < (L.length : Int) ∧ ¬ ltr (gA L az) = -1))))
theorem yv_MO_isLetter : Yv y_MO_isLetter b_MO_isLetter 1 (Option.some FieldType.boolean) 0 := ⟨g_821, g_65, by decide, by decide +kernel⟩
set_option maxHeartbeats 4000000 in
set_option maxRecDepth 100000 in
theorem c_MO_isLetter (l0 : Launch) (D : GG) (m : Nat) (kp : Int) (fl : Int) (fo : Int) (di : Int) (az : Int) (L : List Int) (hz : 0 ≤ az ∧ az ≤ 300) : Ct l0 D y_MO_isLetter b_MO_isLetter 1 (Option.some FieldType.boolean) ({ frames := 1, cells := 0, slots := 0, locals := 22 } : Room) [.ref m] (fun H => At D H m (oO 11 [.ref (m + 1), .ref (m + 2), zV kp, .ref (m + 3), zV fl, .ref (m + 4), .ref (m + 5), .ref (m + 6), zV fo, .ref (m + 7), zV di, zV ((L.length : Int)), .ref (m + 8), zV az, .ref (m + 9), .ref (m + 10), .ref (m + 11)]) ∧ isTx D H (m + 8) L) nA 0 0 (q_MO_isLetter D m kp fl fo di az L) := by
  refine Ct.of (L := [(0, .ref m)]) (by decide) (Nat.le_of_ble_eq_true rfl) rfl (fun M H ho hr hnm hH hpre => ?_)
  obtain ⟨t_o, t_x⟩ := hpre
  obtain ⟨⟨x_f, x_a, x_r⟩, x_l, x_w⟩ := id t_x
  refine x_aload_n ho 0 d_MO_isLetter_0 rfl ?_
  refine x_get 13 ho d_MO_isLetter_1 cl_MO (by decide) g_770 t_o rfl ?_
  refine x_aload_n ho 0 d_MO_isLetter_4 rfl ?_
  refine x_get 11 ho d_MO_isLetter_5 cl_MO (by decide) g_768 t_o rfl ?_
  refine x_icmp_ge (tgt := 34) ho d_MO_isLetter_8 (by decide) (by omega) (by omega) (fun c_8 => ?_) (fun c_8 => ?_)
  ·
    refine x_iconst ho d_MO_isLetter_34 ?_
    refine x_zret ho hr (Or.inl rfl) d_MO_isLetter_35 ?_
    exact rF (by exact fun q => by omega)
  ·
    refine x_aload_n ho 0 d_MO_isLetter_11 rfl ?_
    refine x_get 12 ho d_MO_isLetter_12 cl_MO (by decide) g_769 t_o rfl ?_
    refine x_aload_n ho 0 d_MO_isLetter_15 rfl ?_
    refine x_get 13 ho d_MO_isLetter_16 cl_MO (by decide) g_770 t_o rfl ?_
    refine x_cald ho d_MO_isLetter_19 x_a (by omega) (by omega) (by omega) ?_
    refine x_eqI (b := gA L az) (by exact x_r az (by omega) (by omega)) ?_
    have hcr := ca_r x_w hz.1 (by omega)
    refine x_bipush (z := 97) ho d_MO_isLetter_20 (by decide) ?_
    refine x_bipush (z := 100) ho d_MO_isLetter_22 (by decide) ?_
    refine x_callS (rest := []) ho d_MO_isLetter_24 yv_MO_in g_823 g_822 (c_MO_in M.2.1 D (gA L az) 97 100 (by omega) (by omega) (by omega)) rfl rfl ⟨Nat.le_of_ble_eq_true rfl, Nat.le_of_ble_eq_true rfl⟩ ⟨Nat.le_of_ble_eq_true rfl, Nat.le_of_ble_eq_true rfl⟩ rfl rfl (Nat.le_of_ble_eq_true rfl) trivial fr_none' (x_rd (fun v_1 hv_1 => ?_))
    obtain rfl := hv_1
    show X _ _ _ _ _ _ _ _ _ [zV (bI (97 ≤ (gA L az) ∧ (gA L az) ≤ 100))] _
    refine x_if_eqB (tgt := 34) ho d_MO_isLetter_27 (by decide) (fun c_27 => ?_) (fun c_27 => ?_)
    ·
      refine x_iconst ho d_MO_isLetter_34 ?_
      refine x_zret ho hr (Or.inl rfl) d_MO_isLetter_35 ?_
      exact rF (by exact fun q => c_27 (ltr_i.mpr q.2))
    ·
      refine x_iconst ho d_MO_isLetter_30 ?_
      refine x_goto (tgt := 35) ho d_MO_isLetter_31 (by decide) ?_
      refine x_zret ho hr (Or.inr rfl) d_MO_isLetter_35 ?_
      exact rT (by exact ⟨by omega, ltr_i.mp c_27⟩)
def q_MO_pieceOfText (D : GG) (m : Nat) (kp : Int) (fl : Int) (fo : Int) (di : Int) (az : Int) (L : List Int) : Option Value → Heap → Prop := fun v0 H => (v0 = some (zV ((L.length : Int))) ∧ ((pau L [] 0).1 = -1 ∧ 1 ≤ (L.length : Int) ∧ (L.length : Int) ≤ 20 ∧ (pau L [] 0).2 = pm L ((L.length : Int)) ∧ ∀ j : Int, 0 ≤ j → j < (L.length : Int) → ¬ ltr (gA L j) = -1) ∧ At D H m (oO 11 [.ref (m + 1), .ref (m + 2), zV kp, .ref (m + 3), zV fl, .ref (m + 4), .ref (m + 5), .ref (m + 6), zV fo, .ref (m + 7), zV di, zV ((L.length : Int)), .ref (m + 8), zV ((L.length : Int)), .ref (m + 9), .ref (m + 10), .ref (m + 11)]) ∧ isTx D H (m + 8) L) ∨ (v0 = some (zV (-5)) ∧ ¬ (pau L [] 0).1 = -1 ∧ At D H m (oO 11 [.ref (m + 1), .ref (m + 2), zV kp, .ref (m + 3), zV fl, .ref (m + 4), .ref (m + 5), .ref (m + 6), zV fo, .ref (m + 7), zV di, zV ((L.length : Int)), .ref (m + 8), zV ((pau L [] 0).1), .ref (m + 9), .ref (m + 10), .ref (m + 11)]) ∧ isTx D H (m + 8) L)
theorem yv_MO_pieceOfText : Yv y_MO_pieceOfText b_MO_pieceOfText 1 (Option.some FieldType.int) 0 := ⟨g_913, g_65, by decide, by decide +kernel⟩
set_option maxHeartbeats 4000000 in
set_option maxRecDepth 100000 in
theorem c_MO_pieceOfText (l0 : Launch) (D : GG) (m : Nat) (kp : Int) (fl : Int) (fo : Int) (di : Int) (az : Int) (L : List Int)  : Ct l0 D y_MO_pieceOfText b_MO_pieceOfText 1 (Option.some FieldType.int) ({ frames := 2, cells := 0, slots := 0, locals := 42 } : Room) [.ref m] (fun H => At D H m (oO 11 [.ref (m + 1), .ref (m + 2), zV kp, .ref (m + 3), zV fl, .ref (m + 4), .ref (m + 5), .ref (m + 6), zV fo, .ref (m + 7), zV di, zV ((L.length : Int)), .ref (m + 8), zV az, .ref (m + 9), .ref (m + 10), .ref (m + 11)]) ∧ isTx D H (m + 8) L) (rA m (m + 1)) 0 0 (q_MO_pieceOfText D m kp fl fo di az L) := by
  refine Ct.of (L := [(0, .ref m)]) (by decide) (Nat.le_of_ble_eq_true rfl) rfl (fun M H ho hr hnm hH hpre => ?_)
  obtain ⟨t_o, t_x⟩ := hpre
  obtain ⟨⟨x_f, x_a, x_r⟩, x_l, x_w⟩ := id t_x
  refine x_aload_n ho 0 d_MO_pieceOfText_0 rfl ?_
  refine x_iconst ho d_MO_pieceOfText_1 ?_
  refine x_put 13 ho d_MO_pieceOfText_2 cl_MO (by decide) g_770 t_o rfl rfl rfl (Nat.le_of_ble_eq_true rfl) (rA_in (by omega) (by omega)) (fun H_1 p_2 z_3 q_4 => ?_)
  have k_5 := t_x.kept (q_4 _ (by omega))
  have loop_5 : ∀ (kk : Nat) (k : Int) (H_6 : Heap) (l_o : At D H_6 m (oO 11 [.ref (m + 1), .ref (m + 2), zV kp, .ref (m + 3), zV fl, .ref (m + 4), .ref (m + 5), .ref (m + 6), zV fo, .ref (m + 7), zV di, zV ((L.length : Int)), .ref (m + 8), zV k, .ref (m + 9), .ref (m + 10), .ref (m + 11)])) (l_x : isTx D H_6 (m + 8) L) (k0 : 0 ≤ k ∧ k ≤ 20 ∧ k ≤ (L.length : Int)) (hk : pau L [] 0 = pau (L.drop k.toNat) (pm L k) k) (hl : ∀ j : Int, 0 ≤ j → j < k → ¬ ltr (gA L j) = -1), (20 - k).toNat < kk → X M ({ frames := 2, cells := 0, slots := 0, locals := 42 } : Room) 1 (rA m (m + 1)) 0 0 (Qof M (rA m (m + 1)) (q_MO_pieceOfText D m kp fl fo di az L) 0 0) 5 [(0, .ref m)] [] H_6 := by
    intro kk
    induction kk with
    | zero => intro k H_6 l_o l_x k0 hk hl hk; exact absurd hk (Nat.not_lt_zero _)
    | succ kk ih_5 =>
      intro k H_6 l_o l_x k0 hk hl hk_5
      refine x_aload_n ho 0 d_MO_pieceOfText_5 rfl ?_
      refine x_get 13 ho d_MO_pieceOfText_6 cl_MO (by decide) g_770 l_o rfl ?_
      refine x_bipush (z := 20) ho d_MO_pieceOfText_9 (by decide) ?_
      refine x_icmp_ge (tgt := 34) ho d_MO_pieceOfText_11 (by decide) (by omega) (by omega) (fun c_11 => ?_) (fun c_11 => ?_)
      ·
        have hex : 20 ≤ k ∨ ¬ (k < (L.length : Int) ∧ ¬ ltr (gA L k) = -1) := Or.inl (by omega)
        refine x_aload_n ho 0 d_MO_pieceOfText_34 rfl ?_
        refine x_get 13 ho d_MO_pieceOfText_35 cl_MO (by decide) g_770 l_o rfl ?_
        refine x_if_eq (tgt := 52) ho d_MO_pieceOfText_38 (by decide) (by omega) (fun c_38 => ?_) (fun c_38 => ?_)
        ·
          refine x_bipush (z := (-5)) ho d_MO_pieceOfText_52 (by decide) ?_
          refine x_goto (tgt := 61) ho d_MO_pieceOfText_54 (by decide) ?_
          refine x_iret ho hr d_MO_pieceOfText_61 ?_
          by_cases hz0 : (L.length : Int) ≤ 0
          · have he : pau L [] 0 = (k, pm L k) := by rw [hk, pau_z (by omega), if_neg (by omega)]
            exact Or.inr ⟨rfl, by rw [he]; show ¬ k = -1; omega, by rw [he]; exact l_o, l_x⟩
          · have he : pau L [] 0 = (k, pm L k) := by rw [hk]; exact pau_x (by omega) (by omega) (by rcases hex with z | z; exact Or.inl z; exact Or.inr (Classical.not_not.mp fun w => z ⟨by omega, w⟩))
            exact Or.inr ⟨rfl, by rw [he]; show ¬ k = -1; omega, by rw [he]; exact l_o, l_x⟩
        ·
          refine x_aload_n ho 0 d_MO_pieceOfText_41 rfl ?_
          refine x_get 13 ho d_MO_pieceOfText_42 cl_MO (by decide) g_770 l_o rfl ?_
          refine x_aload_n ho 0 d_MO_pieceOfText_45 rfl ?_
          refine x_get 11 ho d_MO_pieceOfText_46 cl_MO (by decide) g_768 l_o rfl ?_
          refine x_icmp_ge (tgt := 57) ho d_MO_pieceOfText_49 (by decide) (by omega) (by omega) (fun c_49 => ?_) (fun c_49 => ?_)
          ·
            refine x_aload_n ho 0 d_MO_pieceOfText_57 rfl ?_
            refine x_get 13 ho d_MO_pieceOfText_58 cl_MO (by decide) g_770 l_o rfl ?_
            refine x_iret ho hr d_MO_pieceOfText_61 ?_
            have hkl : k = (L.length : Int) := by omega
            have he : pau L [] 0 = (-1, pm L k) := by rw [hk, pau_z (by omega), if_pos (by omega)]
            have ho9 := l_o
            rw [hkl] at ho9 he hl
            exact Or.inl ⟨rI hkl, ⟨by rw [he], by omega, by omega, by rw [he], hl⟩, ho9, l_x⟩
          ·
            refine x_bipush (z := (-5)) ho d_MO_pieceOfText_52 (by decide) ?_
            refine x_goto (tgt := 61) ho d_MO_pieceOfText_54 (by decide) ?_
            refine x_iret ho hr d_MO_pieceOfText_61 ?_
            have he : pau L [] 0 = (k, pm L k) := by rw [hk]; exact pau_x (by omega) (by omega) (by rcases hex with z | z; exact Or.inl z; exact Or.inr (Classical.not_not.mp fun w => z ⟨by omega, w⟩))
            exact Or.inr ⟨rfl, by rw [he]; show ¬ k = -1; omega, by rw [he]; exact l_o, l_x⟩
      ·
        refine x_aload_n ho 0 d_MO_pieceOfText_14 rfl ?_
        refine x_callV (rest := []) ho d_MO_pieceOfText_15 yv_MO_isLetter g_820 g_24 g_819 (c_MO_isLetter M.2.1 D m kp fl fo di k L (by omega)) rfl rfl ⟨Nat.le_of_ble_eq_true rfl, Nat.le_of_ble_eq_true rfl⟩ ⟨Nat.le_of_ble_eq_true rfl, Nat.le_of_ble_eq_true rfl⟩ rfl rfl (Nat.le_of_ble_eq_true rfl) l_o rfl rfl ⟨l_o, l_x⟩ fr_none' (x_rd (fun v_7 hv_7 => ?_))
        obtain rfl := hv_7
        show X _ _ _ _ _ _ _ _ _ [zV (bI (k < (L.length : Int) ∧ ¬ ltr (gA L k) = -1))] _
        refine x_if_eqB (tgt := 34) ho d_MO_pieceOfText_18 (by decide) (fun c_18 => ?_) (fun c_18 => ?_)
        ·
          have hex : 20 ≤ k ∨ ¬ (k < (L.length : Int) ∧ ¬ ltr (gA L k) = -1) := Or.inr c_18
          refine x_aload_n ho 0 d_MO_pieceOfText_34 rfl ?_
          refine x_get 13 ho d_MO_pieceOfText_35 cl_MO (by decide) g_770 l_o rfl ?_
          refine x_if_eq (tgt := 52) ho d_MO_pieceOfText_38 (by decide) (by omega) (fun c_38 => ?_) (fun c_38 => ?_)
          ·
            refine x_bipush (z := (-5)) ho d_MO_pieceOfText_52 (by decide) ?_
            refine x_goto (tgt := 61) ho d_MO_pieceOfText_54 (by decide) ?_
            refine x_iret ho hr d_MO_pieceOfText_61 ?_
            by_cases hz0 : (L.length : Int) ≤ 0
            · have he : pau L [] 0 = (k, pm L k) := by rw [hk, pau_z (by omega), if_neg (by omega)]
              exact Or.inr ⟨rfl, by rw [he]; show ¬ k = -1; omega, by rw [he]; exact l_o, l_x⟩
            · have he : pau L [] 0 = (k, pm L k) := by rw [hk]; exact pau_x (by omega) (by omega) (by rcases hex with z | z; exact Or.inl z; exact Or.inr (Classical.not_not.mp fun w => z ⟨by omega, w⟩))
              exact Or.inr ⟨rfl, by rw [he]; show ¬ k = -1; omega, by rw [he]; exact l_o, l_x⟩
          ·
            refine x_aload_n ho 0 d_MO_pieceOfText_41 rfl ?_
            refine x_get 13 ho d_MO_pieceOfText_42 cl_MO (by decide) g_770 l_o rfl ?_
            refine x_aload_n ho 0 d_MO_pieceOfText_45 rfl ?_
            refine x_get 11 ho d_MO_pieceOfText_46 cl_MO (by decide) g_768 l_o rfl ?_
            refine x_icmp_ge (tgt := 57) ho d_MO_pieceOfText_49 (by decide) (by omega) (by omega) (fun c_49 => ?_) (fun c_49 => ?_)
            ·
              refine x_aload_n ho 0 d_MO_pieceOfText_57 rfl ?_
              refine x_get 13 ho d_MO_pieceOfText_58 cl_MO (by decide) g_770 l_o rfl ?_
              refine x_iret ho hr d_MO_pieceOfText_61 ?_
              have hkl : k = (L.length : Int) := by omega
              have he : pau L [] 0 = (-1, pm L k) := by rw [hk, pau_z (by omega), if_pos (by omega)]
              have ho9 := l_o
              rw [hkl] at ho9 he hl
              exact Or.inl ⟨rI hkl, ⟨by rw [he], by omega, by omega, by rw [he], hl⟩, ho9, l_x⟩
            ·
              refine x_bipush (z := (-5)) ho d_MO_pieceOfText_52 (by decide) ?_
              refine x_goto (tgt := 61) ho d_MO_pieceOfText_54 (by decide) ?_
              refine x_iret ho hr d_MO_pieceOfText_61 ?_
              have he : pau L [] 0 = (k, pm L k) := by rw [hk]; exact pau_x (by omega) (by omega) (by rcases hex with z | z; exact Or.inl z; exact Or.inr (Classical.not_not.mp fun w => z ⟨by omega, w⟩))
              exact Or.inr ⟨rfl, by rw [he]; show ¬ k = -1; omega, by rw [he]; exact l_o, l_x⟩
        ·
          refine x_aload_n ho 0 d_MO_pieceOfText_21 rfl ?_
          refine x_dup ho d_MO_pieceOfText_22 rfl ?_
          refine x_get 13 ho d_MO_pieceOfText_23 cl_MO (by decide) g_770 l_o rfl ?_
          refine x_iconst ho d_MO_pieceOfText_26 ?_
          refine x_iadd ho d_MO_pieceOfText_27 ?_
          refine x_put 13 ho d_MO_pieceOfText_28 cl_MO (by decide) g_770 l_o rfl rfl rfl (Nat.le_of_ble_eq_true rfl) (rA_in (by omega) (by omega)) (fun H_9 p_10 z_11 q_12 => ?_)
          have k_13 := l_x.kept (q_12 _ (by omega))
          refine x_goto (tgt := 5) ho d_MO_pieceOfText_31 (by decide) ?_
          exact ih_5 (k + 1) H_9 p_10 k_13 (by omega) (by rw [hk]; exact pau_s (by omega) (by omega) (by omega) c_18.2) (by intro j a b; rcases (show j < k ∨ j = k by omega) with z | z; exact hl j a z; rw [z]; exact c_18.2) (by omega)
  exact loop_5 _ 0 H_1 p_2 k_5 (by omega) (by rfl) (by exact fun j a b => by omega) (Nat.lt_succ_self _)
def q_MO_type (D : GG) (m : Nat) (V : WV) (z1 : Int) : Option Value → Heap → Prop := fun v0 H => v0 = some (zV ((m_type z1 V).1)) ∧ isO D H m ((m_type z1 V).2)
theorem yv_MO_type : Yv y_MO_type b_MO_type 2 (Option.some FieldType.int) 1 := ⟨g_917, g_65, by decide, by decide +kernel⟩
set_option maxHeartbeats 4000000 in
set_option maxRecDepth 100000 in
theorem c_MO_type (l0 : Launch) (D : GG) (m : Nat) (V : WV) (z1 : Int) (hz1 : 0 ≤ z1 ∧ z1 < 65536) : Ct l0 D y_MO_type b_MO_type 2 (Option.some FieldType.int) ({ frames := 0, cells := 0, slots := 0, locals := 0 } : Room) [.ref m, zV z1] (fun H => isO D H m V) (rA m (m + 12)) 0 0 (q_MO_type D m V z1) := by
  refine Ct.of (L := [(0, .ref m), (1, zV z1)]) (by decide) (Nat.le_of_ble_eq_true rfl) rfl (fun M H ho hr hnm hH hpre => ?_)
  have hW := hpre
  obtain ⟨o_fo, o_di, o_az, o_t, o_b, o_p, o_u, o_c, o_e, o_y, a_o, a_n, a_h, a_s, a_t, a_b, a_p, a_u, a_x, a_c, a_e, a_y, a_k⟩ := id hW
  have n_o := a_n.ok
  have n_1 := n_o.1
  have n_2 := n_o.2.1
  have n_3 := n_o.2.2
  have h_b := a_h.b
  obtain ⟨⟨x_f, x_a, x_r⟩, x_l, x_w⟩ := id a_x
  refine x_aload_n ho 0 d_MO_type_0 rfl ?_
  refine x_get 11 ho d_MO_type_1 cl_MO (by decide) g_768 a_o rfl ?_
  refine x_bipush (z := 60) ho d_MO_type_4 (by decide) ?_
  refine x_icmp_ne (tgt := 12) ho d_MO_type_6 (by decide) (by omega) (by omega) (fun c_6 => ?_) (fun c_6 => ?_)
  ·
    refine x_aload_n ho 0 d_MO_type_12 rfl ?_
    refine x_get 12 ho d_MO_type_13 cl_MO (by decide) g_769 a_o rfl ?_
    refine x_aload_n ho 0 d_MO_type_16 rfl ?_
    refine x_get 11 ho d_MO_type_17 cl_MO (by decide) g_768 a_o rfl ?_
    refine x_iload_n ho 1 d_MO_type_20 rfl ?_
    refine x_cast ho d_MO_type_21 x_a (by omega) (by omega) (by omega) (by exact nar_c hz1.1 hz1.2) (rA_in (by omega) (by omega)) (fun H_1 p_2 z_3 q_4 => ?_)
    have k_5 := a_o.kept (q_4 _ (by omega))
    have k_6 := a_n.kept (q_4 _ (by omega))
    have k_7 := a_h.kept (q_4 _ (by omega))
    have k_8 := a_s.kept (q_4 _ (by omega))
    have k_9 := a_t.kept (q_4 _ (by omega))
    have k_10 := a_b.kept (q_4 _ (by omega))
    have k_11 := a_p.kept (q_4 _ (by omega))
    have k_12 := a_u.kept (q_4 _ (by omega))
    have k_13 := a_c.kept (q_4 _ (by omega))
    have k_14 := a_e.kept (q_4 _ (by omega))
    have k_15 := a_y.kept (q_4 _ (by omega))
    refine x_aload_n ho 0 d_MO_type_22 rfl ?_
    refine x_dup ho d_MO_type_23 rfl ?_
    refine x_get 11 ho d_MO_type_24 cl_MO (by decide) g_768 k_5 rfl ?_
    refine x_iconst ho d_MO_type_27 ?_
    refine x_iadd ho d_MO_type_28 ?_
    refine x_put 11 ho d_MO_type_29 cl_MO (by decide) g_768 k_5 rfl rfl rfl (Nat.le_of_ble_eq_true rfl) (rA_in (by omega) (by omega)) (fun H_16 p_17 z_18 q_19 => ?_)
    have k_20 := k_6.kept (q_19 _ (by omega))
    have k_21 := k_7.kept (q_19 _ (by omega))
    have k_22 := k_8.kept (q_19 _ (by omega))
    have k_23 := k_9.kept (q_19 _ (by omega))
    have k_24 := k_10.kept (q_19 _ (by omega))
    have k_25 := k_11.kept (q_19 _ (by omega))
    have k_26 := k_12.kept (q_19 _ (by omega))
    have k_27 := k_13.kept (q_19 _ (by omega))
    have k_28 := k_14.kept (q_19 _ (by omega))
    have k_29 := k_15.kept (q_19 _ (by omega))
    have k_30 := p_2.kept (q_19 _ (by omega))
    refine x_aload_n ho 0 d_MO_type_32 rfl ?_
    refine x_get 11 ho d_MO_type_33 cl_MO (by decide) g_768 p_17 rfl ?_
    refine x_iret ho hr d_MO_type_36 ?_
    have e : m_type z1 V = ((V.2.2.2.2.length : Int) + 1, (V.1, V.2.1, V.2.2.1, V.2.2.2.1, V.2.2.2.2 ++ [z1])) := by unfold m_type; rw [cif_t (by omega)]
    exact ⟨by rw [e], by rw [e]; exact isO_mk (by show At D _ m (oO 11 [_, _, _, _, _, _, _, _, _, _, _, zV ((V.2.2.2.2 ++ [z1]).length : Int), _, _, _, _, _]); rw [snoc_len]; exact p_17) k_20 k_21 k_22 k_23 k_24 k_25 k_26 ⟨⟨_, k_30, tx_push x_r⟩, by rw [List.length_append]; simp only [List.length_cons, List.length_nil]; omega, snoc_all x_w hz1⟩ k_27 k_28 k_29 a_k⟩
  ·
    refine x_bipush (z := (-3)) ho d_MO_type_9 (by decide) ?_
    refine x_iret ho hr d_MO_type_11 ?_
    have e : m_type z1 V = (-3, V) := by unfold m_type; rw [cif_f (by omega)]
    exact ⟨by rw [e], by rw [e]; exact isO_mk a_o a_n a_h a_s a_t a_b a_p a_u a_x a_c a_e a_y a_k⟩
def q_MO_clearText (D : GG) (m : Nat) (V : WV) : Option Value → Heap → Prop := fun v0 H => v0 = some (zV ((m_clearText V).1)) ∧ isO D H m ((m_clearText V).2)
theorem yv_MO_clearText : Yv y_MO_clearText b_MO_clearText 2 (Option.some FieldType.int) 0 := ⟨g_921, g_65, by decide, by decide +kernel⟩
set_option maxHeartbeats 4000000 in
set_option maxRecDepth 100000 in
theorem c_MO_clearText (l0 : Launch) (D : GG) (m : Nat) (V : WV)  : Ct l0 D y_MO_clearText b_MO_clearText 2 (Option.some FieldType.int) ({ frames := 0, cells := 0, slots := 0, locals := 0 } : Room) [.ref m] (fun H => isO D H m V) (rA m (m + 12)) 0 0 (q_MO_clearText D m V) := by
  refine Ct.of (L := [(0, .ref m)]) (by decide) (Nat.le_of_ble_eq_true rfl) rfl (fun M H ho hr hnm hH hpre => ?_)
  have hW := hpre
  obtain ⟨o_fo, o_di, o_az, o_t, o_b, o_p, o_u, o_c, o_e, o_y, a_o, a_n, a_h, a_s, a_t, a_b, a_p, a_u, a_x, a_c, a_e, a_y, a_k⟩ := id hW
  have n_o := a_n.ok
  have n_1 := n_o.1
  have n_2 := n_o.2.1
  have n_3 := n_o.2.2
  have h_b := a_h.b
  obtain ⟨⟨x_f, x_a, x_r⟩, x_l, x_w⟩ := id a_x
  refine x_aload_n ho 0 d_MO_clearText_0 rfl ?_
  refine x_get 11 ho d_MO_clearText_1 cl_MO (by decide) g_768 a_o rfl ?_
  refine x_istore_n (L' := [(1, zV ((V.2.2.2.2.length : Int))), (0, .ref m)]) ho d_MO_clearText_4 (by decide) rfl ?_
  refine x_aload_n ho 1 d_MO_clearText_5 rfl ?_
  refine x_iconst ho d_MO_clearText_6 ?_
  refine x_put 11 ho d_MO_clearText_7 cl_MO (by decide) g_768 a_o rfl rfl rfl (Nat.le_of_ble_eq_true rfl) (rA_in (by omega) (by omega)) (fun H_1 p_2 z_3 q_4 => ?_)
  have k_5 := a_n.kept (q_4 _ (by omega))
  have k_6 := a_h.kept (q_4 _ (by omega))
  have k_7 := a_s.kept (q_4 _ (by omega))
  have k_8 := a_t.kept (q_4 _ (by omega))
  have k_9 := a_b.kept (q_4 _ (by omega))
  have k_10 := a_p.kept (q_4 _ (by omega))
  have k_11 := a_u.kept (q_4 _ (by omega))
  have k_12 := a_c.kept (q_4 _ (by omega))
  have k_13 := a_e.kept (q_4 _ (by omega))
  have k_14 := a_y.kept (q_4 _ (by omega))
  have k_15 := x_a.kept (q_4 _ (by omega))
  refine x_iload_n ho 0 d_MO_clearText_10 rfl ?_
  refine x_iret ho hr d_MO_clearText_11 ?_
  exact ⟨rfl, isO_mk p_2 k_5 k_6 k_7 k_8 k_9 k_10 k_11 ⟨⟨_, k_15, no0⟩, Nat.zero_le _, fun _ h => (by cases h)⟩ k_12 k_13 k_14 a_k⟩
