def q_RT_find (D : GG) (o : Nat) (os : List Int) (N : List Int) (F : List Int) (b : Nat) (n : Nat) (L : List Int) (q : Nat) (m : Nat) (K : List Int) : Option Value → Heap → Prop := fun v0 H => v0 = none ∧ isRT D H o (ocs L K) (roo L (ocs L K)) (fir L (ocs L K)) ∧ isL D H b n L ∧ isL D H q m K
theorem yv_RT_find : Yv y_RT_find b_RT_find 4 (Option.none : Option FieldType) 2 := ⟨g_456, g_64, by decide, by decide +kernel⟩
set_option maxHeartbeats 4000000 in
set_option maxRecDepth 100000 in
theorem c_RT_find (l0 : Launch) (D : GG) (o : Nat) (os : List Int) (N : List Int) (F : List Int) (b : Nat) (n : Nat) (L : List Int) (q : Nat) (m : Nat) (K : List Int) (hd : o + 5 ≤ b ∨ b + 2 ≤ o) (hd2 : o + 5 ≤ q ∨ q + 2 ≤ o) : Ct l0 D y_RT_find b_RT_find 4 (Option.none : Option FieldType) ({ frames := 4, cells := 0, slots := 0, locals := 92 } : Room) [.ref o, .ref b, .ref q] (fun H => isRT D H o os N F ∧ isL D H b n L ∧ isL D H q m K) (rA o (o + 5)) 0 0 (q_RT_find D o os N F b n L q m K) := by
  refine Ct.of (L := [(0, .ref o), (1, .ref b), (2, .ref q)]) (by decide) (Nat.le_of_ble_eq_true rfl) rfl (fun M H ho hr hnm hH hpre => ?_)
  obtain ⟨hT, hL, hK⟩ := hpre
  obtain ⟨h_o, P, S, Q, T, h_p, h_s, h_q, h_t, e1, e2, e3, e4, e5, e6, e7, e8, e9, e10⟩ := id hT
  have h_n := hL.b
  have k_n := hK.b
  refine x_aload_n ho 0 d_RT_find_0 rfl ?_
  refine x_iconst ho d_RT_find_1 ?_
  refine x_put 1 ho d_RT_find_2 cl_RT (by decide) g_224 h_o rfl rfl rfl (Nat.le_of_ble_eq_true rfl) (rA_in (by omega) (by omega)) (fun H_1 p_2 z_3 q_4 => ?_)
  have k_5 := hL.kept (fun q g1 g2 => q_4 q (by omega))
  have k_6 := hK.kept (fun q g1 g2 => q_4 q (by omega))
  have k_7 := h_p.kept (q_4 _ (by omega))
  have k_8 := h_s.kept (q_4 _ (by omega))
  have k_9 := h_q.kept (q_4 _ (by omega))
  have k_10 := h_t.kept (q_4 _ (by omega))
  refine x_aload_n ho 0 d_RT_find_5 rfl ?_
  refine x_iconst ho d_RT_find_6 ?_
  refine x_put 5 ho d_RT_find_7 cl_RT (by decide) g_228 p_2 rfl rfl rfl (Nat.le_of_ble_eq_true rfl) (rA_in (by omega) (by omega)) (fun H_11 p_12 z_13 q_14 => ?_)
  have k_15 := k_5.kept (fun q g1 g2 => q_14 q (by omega))
  have k_16 := k_6.kept (fun q g1 g2 => q_14 q (by omega))
  have k_17 := k_7.kept (q_14 _ (by omega))
  have k_18 := k_8.kept (q_14 _ (by omega))
  have k_19 := k_9.kept (q_14 _ (by omega))
  have k_20 := k_10.kept (q_14 _ (by omega))
  refine x_aload_n ho 2 d_RT_find_10 rfl ?_
  refine x_callV (rest := []) ho d_RT_find_11 yv_LE_length g_323 g_324 g_457 (c_LE_length M.2.1 D q m K ) rfl rfl ⟨Nat.le_of_ble_eq_true rfl, Nat.le_of_ble_eq_true rfl⟩ ⟨Nat.le_of_ble_eq_true rfl, Nat.le_of_ble_eq_true rfl⟩ rfl rfl (Nat.le_of_ble_eq_true rfl) k_16.1 rfl rfl k_16 fr_none' (x_rd (fun v_21 hv_21 => ?_))
  obtain rfl := hv_21
  show X _ _ _ _ _ _ _ _ _ [zV ((K.length : Int))] _
  refine x_iconst ho d_RT_find_14 ?_
  refine x_icmp_ge (tgt := 19) ho d_RT_find_15 (by decide) (by omega) (by omega) (fun c_15 => ?_) (fun c_15 => ?_)
  ·
    refine x_iconst ho d_RT_find_19 ?_
    refine x_istore_n (L' := [(3, zV 0), (0, .ref o), (1, .ref b), (2, .ref q)]) ho d_RT_find_20 (by decide) rfl ?_
    have loop_21 : ∀ (kk : Nat) (p : Int) (fd : Int) (ol : List Int) (W : Int → Int) (H_23 : Heap) (k_o : At D H_23 o (oO 6 [.ref (o + 1), zV fd, .ref (o + 2), .ref (o + 3), .ref (o + 4), zV 0])) (k_p : At D H_23 (o + 1) (oI D 300 W)) (k_s : At D H_23 (o + 2) (oI D 300 S)) (k_q : At D H_23 (o + 3) (oI D 300 Q)) (k_t : At D H_23 (o + 4) (oI D 300 T)) (k_L : isL D H_23 b n L) (k_K : isL D H_23 q m K) (i0 : 0 ≤ p ∧ (p = 0 ∨ p + (K.length : Int) ≤ (L.length : Int) + 1)) (hol : ol = ocN L K p.toNat) (hfd : fd = (ol.length : Int)) (hW : ∀ j : Int, 0 ≤ j → j < (ol.length : Int) → W j = gA ol j), ((L.length : Int) + 1 - p).toNat < kk → X M ({ frames := 4, cells := 0, slots := 0, locals := 92 } : Room) 4 (rA o (o + 5)) 0 0 (Qof M (rA o (o + 5)) (q_RT_find D o os N F b n L q m K) 0 0) 21 [(3, zV p), (0, .ref o), (1, .ref b), (2, .ref q)] [] H_23 := by
      intro kk
      induction kk with
      | zero => intro p fd ol W H_23 k_o k_p k_s k_q k_t k_L k_K i0 hol hfd hW hk; exact absurd hk (Nat.not_lt_zero _)
      | succ kk ih_21 =>
        intro p fd ol W H_23 k_o k_p k_s k_q k_t k_L k_K i0 hol hfd hW hk_21
        refine x_iload_n ho 0 d_RT_find_21 rfl ?_
        refine x_aload_n ho 3 d_RT_find_22 rfl ?_
        refine x_callV (rest := [zV p]) ho d_RT_find_23 yv_LE_length g_323 g_324 g_457 (c_LE_length M.2.1 D q m K ) rfl rfl ⟨Nat.le_of_ble_eq_true rfl, Nat.le_of_ble_eq_true rfl⟩ ⟨Nat.le_of_ble_eq_true rfl, Nat.le_of_ble_eq_true rfl⟩ rfl rfl (Nat.le_of_ble_eq_true rfl) k_K.1 rfl rfl k_K fr_none' (x_rd (fun v_24 hv_24 => ?_))
        obtain rfl := hv_24
        show X _ _ _ _ _ _ _ _ _ [zV ((K.length : Int)), zV p] _
        refine x_iadd ho d_RT_find_26 ?_
        refine x_aload_n ho 2 d_RT_find_27 rfl ?_
        refine x_callV (rest := [zV (p + ((K.length : Int)))]) ho d_RT_find_28 yv_LE_length g_323 g_324 g_457 (c_LE_length M.2.1 D b n L ) rfl rfl ⟨Nat.le_of_ble_eq_true rfl, Nat.le_of_ble_eq_true rfl⟩ ⟨Nat.le_of_ble_eq_true rfl, Nat.le_of_ble_eq_true rfl⟩ rfl rfl (Nat.le_of_ble_eq_true rfl) k_L.1 rfl rfl k_L fr_none' (x_rd (fun v_26 hv_26 => ?_))
        obtain rfl := hv_26
        show X _ _ _ _ _ _ _ _ _ [zV ((L.length : Int)), zV (p + ((K.length : Int)))] _
        refine x_icmp_gt (tgt := 81) ho d_RT_find_31 (by decide) (by omega) (by omega) (fun c_31 => ?_) (fun c_31 => ?_)
        ·
          have hkn : K ≠ [] := fun e => by subst e; simp at c_15
          have hos : ocs L K = ol := by
            have e : ocs L K = ocN L K L.length := if_neg hkn
            rw [e, hol]
            rcases (show p.toNat ≤ L.length ∨ L.length < p.toNat by omega) with h | h
            · exact ocN_stop h (by omega)
            · omega
          subst hfd
          have hlen := ocN_len L K p.toNat
          rw [← hol] at hlen
          have hmem : ∀ x ∈ ol, 0 ≤ x ∧ x < (L.length : Int) := fun x hx => by rw [← hos] at hx; exact ocs_mem hx
          have hol9 : (ol.length : Int) ≤ 300 := by have := ocs_len L K; rw [hos] at this; omega
          refine x_iconst ho d_RT_find_81 ?_
          refine x_istore_n (L' := [(3, zV 0), (0, .ref o), (1, .ref b), (2, .ref q)]) ho d_RT_find_82 (by decide) rfl ?_
          have loop_83 : ∀ (kk : Nat) (i : Int) (N1 : List Int) (F1 : List Int) (H_28 : Heap) (m_T : isRT D H_28 o ol N1 F1) (m_L : isL D H_28 b n L) (m_K : isL D H_28 q m K) (j0 : 0 ≤ i ∧ i ≤ rl ol) (hF : F1 = (nst L ol i.toNat).1) (hN : N1 = (nst L ol i.toNat).2), (rl ol - i).toNat < kk → X M ({ frames := 4, cells := 0, slots := 0, locals := 92 } : Room) 4 (rA o (o + 5)) 0 0 (Qof M (rA o (o + 5)) (q_RT_find D o os N F b n L q m K) 0 0) 83 [(3, zV i), (0, .ref o), (1, .ref b), (2, .ref q)] [] H_28 := by
            intro kk
            induction kk with
            | zero => intro i N1 F1 H_28 m_T m_L m_K j0 hF hN hk; exact absurd hk (Nat.not_lt_zero _)
            | succ kk ih_83 =>
              intro i N1 F1 H_28 m_T m_L m_K j0 hF hN hk_83
              refine x_iload_n ho 0 d_RT_find_83 rfl ?_
              refine x_aload_n ho 1 d_RT_find_84 rfl ?_
              refine x_callV (rest := [zV i]) ho d_RT_find_85 yv_RT_rowLength g_460 g_461 g_459 (c_RT_rowLength M.2.1 D o ol N1 F1 ) rfl rfl ⟨Nat.le_of_ble_eq_true rfl, Nat.le_of_ble_eq_true rfl⟩ ⟨Nat.le_of_ble_eq_true rfl, Nat.le_of_ble_eq_true rfl⟩ rfl rfl (Nat.le_of_ble_eq_true rfl) m_T.1 rfl rfl m_T fr_none' (x_rd (fun v_29 hv_29 => ?_))
              obtain ⟨rfl, hb_31⟩ := hv_29
              show X _ _ _ _ _ _ _ _ _ [zV (rl ol), zV i] _
              refine x_icmp_ge (tgt := 103) ho d_RT_find_88 (by decide) (by omega) (by omega) (fun c_88 => ?_) (fun c_88 => ?_)
              ·
                refine x_vret ho hr d_RT_find_103 ?_
                rw [show i.toNat = (rl ol).toNat by omega] at hF hN
                subst hF; subst hN
                exact ⟨rfl, by rw [hos]; exact m_T, m_L, m_K⟩
              ·
                refine x_aload_n ho 1 d_RT_find_91 rfl ?_
                refine x_aload_n ho 2 d_RT_find_92 rfl ?_
                refine x_iload_n ho 0 d_RT_find_93 rfl ?_
                have hnl := nst_len L ol i.toNat
                rw [← hN] at hnl
                have hrl : rl ol = (ol.length : Int) - 1 := by unfold rl at *; split at * <;> omega
                refine x_callV (rest := []) ho d_RT_find_94 yv_RT_addReturn g_465 g_6 g_464 (c_RT_addReturn M.2.1 D o ol N1 F1 b n L i (by omega) (by omega) (by exact hmem)) rfl rfl ⟨Nat.le_of_ble_eq_true rfl, Nat.le_of_ble_eq_true rfl⟩ ⟨Nat.le_of_ble_eq_true rfl, Nat.le_of_ble_eq_true rfl⟩ rfl rfl (Nat.le_of_ble_eq_true rfl) m_T.1 rfl rfl ⟨m_T, m_L⟩ (rA_sub (by omega) (by omega)) (fun v_32 H_34 hv_32 f_33 => ?_)
                have k_35 := m_K.kept (fun q g1 g2 => f_33.2 q (by have := m_K.lt; omega) (rA_no (by omega)))
                obtain ⟨rfl, hT_36, hL_37⟩ := hv_32
                show X _ _ _ _ _ _ _ _ _ [] _
                refine x_iinc (L' := [(3, zV (i + 1)), (0, .ref o), (1, .ref b), (2, .ref q)]) ho 0 d_RT_find_97 rfl rfl (by decide) rfl ?_
                refine x_goto (tgt := 83) ho d_RT_find_100 (by decide) ?_
                exact ih_83 (i + 1) (N1 ++ [fidx L ol i F1]) (if fidx L ol i F1 < (F1.length : Int) then F1 else F1 ++ [i]) H_34 hT_36 hL_37 k_35 (by omega) (by rw [show (i + 1).toNat = i.toNat + 1 by omega, nst, show ((i.toNat : Nat) : Int) = i by omega, ← hF]) (by rw [show (i + 1).toNat = i.toNat + 1 by omega, nst, show ((i.toNat : Nat) : Int) = i by omega, ← hF, ← hN]) (by omega)
          exact loop_83 _ 0 ([]) ([]) H_23 ⟨k_o, W, S, Q, T, k_p, k_s, k_q, k_t, hW, fun j h0 h1 => by simp at h1; omega, fun j h0 h1 => by simp at h1; omega, fun j h0 h1 => by simp at h1; omega, fun x hx => by have := hmem x hx; omega, (fun x hx => by cases hx), (fun x hx => by cases hx), by omega, Nat.zero_le _, Nat.le_refl _⟩ k_L k_K (by unfold rl; split <;> omega) (by rfl) (by rfl) (Nat.lt_succ_self _)
        ·
          have hlo := ocN_len L K p.toNat
          rw [← hol] at hlo
          refine x_aload_n ho 1 d_RT_find_34 rfl ?_
          refine x_get 1 ho d_RT_find_35 cl_RT (by decide) g_224 k_o rfl ?_
          refine x_aload_n ho 1 d_RT_find_38 rfl ?_
          refine x_get 0 ho d_RT_find_39 cl_RT (by decide) g_223 k_o rfl ?_
          refine x_alen ho d_RT_find_42 k_p ?_
          refine x_icmp_ge (tgt := 75) ho d_RT_find_43 (by decide) (by omega) (by omega) (fun c_43 => ?_) (fun c_43 => ?_)
          ·
            omega
          ·
            refine x_aload_n ho 2 d_RT_find_46 rfl ?_
            refine x_iload_n ho 0 d_RT_find_47 rfl ?_
            refine x_aload_n ho 3 d_RT_find_48 rfl ?_
            refine x_callV (rest := []) ho d_RT_find_49 yv_LE_hasFrom g_339 g_340 g_458 (c_LE_hasFrom M.2.1 D b n L p q m K (by omega)) rfl rfl ⟨Nat.le_of_ble_eq_true rfl, Nat.le_of_ble_eq_true rfl⟩ ⟨Nat.le_of_ble_eq_true rfl, Nat.le_of_ble_eq_true rfl⟩ rfl rfl (Nat.le_of_ble_eq_true rfl) k_L.1 rfl rfl ⟨k_L, k_K⟩ fr_none' (x_rd (fun v_38 hv_38 => ?_))
            obtain rfl := hv_38
            show X _ _ _ _ _ _ _ _ _ [zV (bI (∀ j : Int, 0 ≤ j → j < (K.length : Int) → lat L (p + j) = gA K j))] _
            have hoc := occ_iff (L := L) (K := K) (p := p) (by omega) (by omega)
            refine x_if_eqB (tgt := 75) ho d_RT_find_52 (by decide) (fun c_52 => ?_) (fun c_52 => ?_)
            ·
              refine x_iinc (L' := [(3, zV (p + 1)), (0, .ref o), (1, .ref b), (2, .ref q)]) ho 0 d_RT_find_75 rfl rfl (by decide) rfl ?_
              refine x_goto (tgt := 21) ho d_RT_find_78 (by decide) ?_
              exact ih_21 (p + 1) fd ol W H_23 k_o k_p k_s k_q k_t k_L k_K (by omega) (by rw [show (p + 1).toNat = p.toNat + 1 by omega, ocN_f (by rw [show ((p.toNat : Nat) : Int) = p by omega]; exact fun z => c_52 (hoc.mpr z))]; exact hol) (by exact hfd) (by exact hW) (by omega)
            ·
              refine x_aload_n ho 1 d_RT_find_55 rfl ?_
              refine x_get 0 ho d_RT_find_56 cl_RT (by decide) g_223 k_o rfl ?_
              refine x_aload_n ho 1 d_RT_find_59 rfl ?_
              refine x_get 1 ho d_RT_find_60 cl_RT (by decide) g_224 k_o rfl ?_
              refine x_iload_n ho 0 d_RT_find_63 rfl ?_
              refine x_iast ho d_RT_find_64 k_p (by omega) (by omega) (by omega) (rA_in (by omega) (by omega)) (fun H_40 p_41 z_42 q_43 => ?_)
              have k_44 := k_o.kept (q_43 _ (by omega))
              have k_45 := k_s.kept (q_43 _ (by omega))
              have k_46 := k_q.kept (q_43 _ (by omega))
              have k_47 := k_t.kept (q_43 _ (by omega))
              have k_48 := k_L.kept (fun q g1 g2 => q_43 q (by omega))
              have k_49 := k_K.kept (fun q g1 g2 => q_43 q (by omega))
              refine x_aload_n ho 1 d_RT_find_65 rfl ?_
              refine x_dup ho d_RT_find_66 rfl ?_
              refine x_get 1 ho d_RT_find_67 cl_RT (by decide) g_224 k_44 rfl ?_
              refine x_iconst ho d_RT_find_70 ?_
              refine x_iadd ho d_RT_find_71 ?_
              refine x_put 1 ho d_RT_find_72 cl_RT (by decide) g_224 k_44 rfl rfl rfl (Nat.le_of_ble_eq_true rfl) (rA_in (by omega) (by omega)) (fun H_50 p_51 z_52 q_53 => ?_)
              have k_54 := k_45.kept (q_53 _ (by omega))
              have k_55 := k_46.kept (q_53 _ (by omega))
              have k_56 := k_47.kept (q_53 _ (by omega))
              have k_57 := k_48.kept (fun q g1 g2 => q_53 q (by omega))
              have k_58 := k_49.kept (fun q g1 g2 => q_53 q (by omega))
              have k_59 := p_41.kept (q_53 _ (by omega))
              refine x_iinc (L' := [(3, zV (p + 1)), (0, .ref o), (1, .ref b), (2, .ref q)]) ho 0 d_RT_find_75 rfl rfl (by decide) rfl ?_
              refine x_goto (tgt := 21) ho d_RT_find_78 (by decide) ?_
              exact ih_21 (p + 1) (fd + 1) (ol ++ [p]) (zU W fd p) H_50 p_51 k_59 k_54 k_55 k_56 k_57 k_58 (by omega) (by rw [show (p + 1).toNat = p.toNat + 1 by omega, ocN_t (by rw [show ((p.toNat : Nat) : Int) = p by omega]; exact hoc.mp c_52), ← hol, show ((p.toNat : Nat) : Int) = p by omega]) (by rw [snoc_len]; omega) (by
                  intro j h0 h1
                  rw [snoc_len] at h1
                  rw [gA_snoc' h0 h1]
                  by_cases e : j = (ol.length : Int)
                  · rw [if_pos e, e, ← hfd, zU_s]
                  · rw [if_neg e, zU_n _ _ (by omega)]; exact hW j h0 (by omega)) (by omega)
    exact loop_21 _ 0 0 ([]) P H_11 p_12 k_17 k_18 k_19 k_20 k_15 k_16 (by omega) (by rfl) (by rfl) (by intro j h0 h1; simp at h1; omega) (Nat.lt_succ_self _)
  ·
    refine x_vret ho hr d_RT_find_18 ?_
    have hk : K = [] := List.eq_nil_of_length_eq_zero (by omega)
    subst hk
    have eo : ocs L [] = [] := if_pos rfl
    exact ⟨rfl, by rw [eo]; exact ⟨p_12, P, S, Q, T, k_17, k_18, k_19, k_20, fun j h0 h1 => by simp at h1; omega, fun j h0 h1 => by have e : ((roo L []).length : Int) = 0 := roo_len L []; omega, fun j h0 h1 => by have e : fir L [] = [] := rfl; rw [e] at h1; simp at h1; omega, fun j h0 h1 => by have e : fir L [] = [] := rfl; rw [e] at h1; simp at h1; omega, (fun x hx => by cases hx), (fun x hx => by cases hx), (fun x hx => by cases hx), Nat.zero_le _, Nat.zero_le _, Nat.le_refl _⟩, k_15, k_16⟩
