def q_MO_partsOfText (D : GG) (m : Nat) (kp : Int) (fl : Int) (fo : Int) (di : Int) (az : Int) (L : List Int) (T0 : Int → Int) (c0 : Int → List Int) : Option Value → Heap → Prop := fun v0 H => (∃ (t1 : Int → Int), v0 = some (zV (1 + cn L 59)) ∧ (aut L 0 (-1) c0 0).1 = -1 ∧ rpR t1 (aut L 0 (-1) c0 0).2 ∧ okR (aut L 0 (-1) c0 0).2 ∧ (0 ≤ cn L 59 ∧ cn L 59 ≤ 60) ∧ At D H m (oO 11 [.ref (m + 1), .ref (m + 2), zV kp, .ref (m + 3), zV fl, .ref (m + 4), .ref (m + 5), .ref (m + 6), zV fo, .ref (m + 7), zV di, zV ((L.length : Int)), .ref (m + 8), zV ((L.length : Int)), .ref (m + 9), .ref (m + 10), .ref (m + 11)]) ∧ isTx D H (m + 8) L ∧ At D H (m + 4) (oI D 301 t1)) ∨ (∃ (t1 : Int → Int), v0 = some (zV (-5)) ∧ ¬ (aut L 0 (-1) c0 0).1 = -1 ∧ At D H m (oO 11 [.ref (m + 1), .ref (m + 2), zV kp, .ref (m + 3), zV fl, .ref (m + 4), .ref (m + 5), .ref (m + 6), zV fo, .ref (m + 7), zV di, zV ((L.length : Int)), .ref (m + 8), zV ((aut L 0 (-1) c0 0).1), .ref (m + 9), .ref (m + 10), .ref (m + 11)]) ∧ isTx D H (m + 8) L ∧ At D H (m + 4) (oI D 301 t1))
theorem yv_MO_partsOfText : Yv y_MO_partsOfText b_MO_partsOfText 5 (Option.some FieldType.int) 0 := ⟨g_818, g_65, by decide, by decide +kernel⟩
set_option maxHeartbeats 4000000 in
set_option maxRecDepth 100000 in
theorem c_MO_partsOfText (l0 : Launch) (D : GG) (m : Nat) (kp : Int) (fl : Int) (fo : Int) (di : Int) (az : Int) (L : List Int) (T0 : Int → Int) (c0 : Int → List Int) (hT0 : rpR T0 c0) (hc0 : okR c0) : Ct l0 D y_MO_partsOfText b_MO_partsOfText 5 (Option.some FieldType.int) ({ frames := 2, cells := 0, slots := 0, locals := 42 } : Room) [.ref m] (fun H => At D H m (oO 11 [.ref (m + 1), .ref (m + 2), zV kp, .ref (m + 3), zV fl, .ref (m + 4), .ref (m + 5), .ref (m + 6), zV fo, .ref (m + 7), zV di, zV ((L.length : Int)), .ref (m + 8), zV az, .ref (m + 9), .ref (m + 10), .ref (m + 11)]) ∧ isTx D H (m + 8) L ∧ At D H (m + 4) (oI D 301 T0)) (fun z => (m ≤ z ∧ z < m + 1) ∨ (m + 4 ≤ z ∧ z < m + 5)) 0 0 (q_MO_partsOfText D m kp fl fo di az L T0 c0) := by
  refine Ct.of (L := [(0, .ref m)]) (by decide) (Nat.le_of_ble_eq_true rfl) rfl (fun M H ho hr hnm hH hpre => ?_)
  obtain ⟨t_o, t_x, t_t⟩ := hpre
  obtain ⟨⟨x_f, x_a, x_r⟩, x_l, x_w⟩ := id t_x
  refine x_aload_n ho 0 d_MO_partsOfText_0 rfl ?_
  refine x_iconst ho d_MO_partsOfText_1 ?_
  refine x_put 13 ho d_MO_partsOfText_2 cl_MO (by decide) g_770 t_o rfl rfl rfl (Nat.le_of_ble_eq_true rfl) (by first | exact Or.inl ⟨by omega, by omega⟩ | exact Or.inr ⟨by omega, by omega⟩) (fun H_1 p_2 z_3 q_4 => ?_)
  have k_5 := t_x.kept (q_4 _ (by omega))
  have k_6 := t_t.kept (q_4 _ (by omega))
  refine x_iconst ho d_MO_partsOfText_5 ?_
  refine x_istore_n (L' := [(1, zV 0), (0, .ref m)]) ho d_MO_partsOfText_6 (by decide) rfl ?_
  refine x_iconst ho d_MO_partsOfText_7 ?_
  refine x_istore_n (L' := [(2, zV 1), (1, zV 0), (0, .ref m)]) ho d_MO_partsOfText_8 (by decide) rfl ?_
  have loop_9 : ∀ (kk : Nat) (g : Int) (pt : Int) (k : Int) (T : Int → Int) (c : Int → List Int) (l : Int) (H_7 : Heap) (l_o : At D H_7 m (oO 11 [.ref (m + 1), .ref (m + 2), zV kp, .ref (m + 3), zV fl, .ref (m + 4), .ref (m + 5), .ref (m + 6), zV fo, .ref (m + 7), zV di, zV ((L.length : Int)), .ref (m + 8), zV k, .ref (m + 9), .ref (m + 10), .ref (m + 11)])) (l_x : isTx D H_7 (m + 8) L) (l_t : At D H_7 (m + 4) (oI D 301 T)) (k0 : 0 ≤ k ∧ k ≤ (L.length : Int)) (p0 : 0 ≤ pt ∧ pt ≤ k + 1) (hg : (g = 1 ∧ aut L 0 (-1) c0 0 = aut (L.drop k.toNat) 0 l c k ∧ pt = cn (tk L k) 59) ∨ (g = 0 ∧ aut L 0 (-1) c0 0 = (-1, c) ∧ pt = 1 + cn L 59 ∧ k = (L.length : Int))) (hT : rpR T c) (hc : okR c), (2 * ((L.length : Int) - k) + g).toNat < kk → X M ({ frames := 2, cells := 0, slots := 0, locals := 42 } : Room) 5 (fun z => (m ≤ z ∧ z < m + 1) ∨ (m + 4 ≤ z ∧ z < m + 5)) 0 0 (Qof M (fun z => (m ≤ z ∧ z < m + 1) ∨ (m + 4 ≤ z ∧ z < m + 5)) (q_MO_partsOfText D m kp fl fo di az L T0 c0) 0 0) 9 [(2, zV g), (1, zV pt), (0, .ref m)] [] H_7 := by
    intro kk
    induction kk with
    | zero => intro g pt k T c l H_7 l_o l_x l_t k0 p0 hg hT hc hk; exact absurd hk (Nat.not_lt_zero _)
    | succ kk ih_9 =>
      intro g pt k T c l H_7 l_o l_x l_t k0 p0 hg hT hc hk_9
      refine x_iload_n ho 0 d_MO_partsOfText_9 rfl ?_
      refine x_if_eq (tgt := 221) ho d_MO_partsOfText_10 (by decide) (by omega) (fun c_10 => ?_) (fun c_10 => ?_)
      ·
        refine x_iload_n ho 1 d_MO_partsOfText_221 rfl ?_
        refine x_iret ho hr d_MO_partsOfText_222 ?_
        have hg2 : aut L 0 (-1) c0 0 = (-1, c) ∧ pt = 1 + cn L 59 ∧ k = (L.length : Int) := by rcases hg with h | h; omega; exact h.2
        have ho9 := l_o
        rw [hg2.2.2] at ho9
        exact Or.inl ⟨_, rI hg2.2.1, by rw [hg2.1], by rw [hg2.1]; exact hT, by rw [hg2.1]; exact hc, by have := cn_r L 59; omega, ho9, l_x, l_t⟩
      ·
        have hg1 : aut L 0 (-1) c0 0 = aut (L.drop k.toNat) 0 l c k ∧ pt = cn (tk L k) 59 := by rcases hg with h | h; exact h.2; omega
        refine x_aload_n ho 2 d_MO_partsOfText_13 rfl ?_
        refine x_callV (rest := []) ho d_MO_partsOfText_14 yv_MO_isLetter g_820 g_24 g_819 (c_MO_isLetter M.2.1 D m kp fl fo di k L (by omega)) rfl rfl ⟨Nat.le_of_ble_eq_true rfl, Nat.le_of_ble_eq_true rfl⟩ ⟨Nat.le_of_ble_eq_true rfl, Nat.le_of_ble_eq_true rfl⟩ rfl rfl (Nat.le_of_ble_eq_true rfl) l_o rfl rfl ⟨l_o, l_x⟩ fr_none' (x_rd (fun v_8 hv_8 => ?_))
        obtain rfl := hv_8
        show X _ _ _ _ _ _ _ _ _ [zV (bI (k < (L.length : Int) ∧ ¬ ltr (gA L k) = -1))] _
        refine x_if_neB (tgt := 23) ho d_MO_partsOfText_17 (by decide) (fun c_17 => ?_) (fun c_17 => ?_)
        ·
          obtain ⟨⟨y_f, y_a, y_r⟩, y_l, y_w⟩ := id l_x
          have hlv := ltr_v c_17.2
          have ha1 := pt_a (L := L) (l := l) (c := c) k0.1 c_17.1 c_17.2
          have hcr := ca_r y_w k0.1 c_17.1
          refine x_aload_n ho 2 d_MO_partsOfText_23 rfl ?_
          refine x_get 12 ho d_MO_partsOfText_24 cl_MO (by decide) g_769 l_o rfl ?_
          refine x_aload_n ho 2 d_MO_partsOfText_27 rfl ?_
          refine x_get 13 ho d_MO_partsOfText_28 cl_MO (by decide) g_770 l_o rfl ?_
          refine x_cald ho d_MO_partsOfText_31 y_a (by omega) (by omega) (by omega) ?_
          refine x_eqI (b := gA L k) (by exact y_r k (by omega) (by omega)) ?_
          refine x_bipush (z := 97) ho d_MO_partsOfText_32 (by decide) ?_
          refine x_isub ho d_MO_partsOfText_34 ?_
          refine x_istore_n (L' := [(3, zV ((gA L k) - 97)), (2, zV g), (1, zV pt), (0, .ref m)]) ho d_MO_partsOfText_35 (by decide) rfl ?_
          refine x_aload_n ho 3 d_MO_partsOfText_36 rfl ?_
          refine x_dup ho d_MO_partsOfText_37 rfl ?_
          refine x_get 13 ho d_MO_partsOfText_38 cl_MO (by decide) g_770 l_o rfl ?_
          refine x_iconst ho d_MO_partsOfText_41 ?_
          refine x_iadd ho d_MO_partsOfText_42 ?_
          refine x_put 13 ho d_MO_partsOfText_43 cl_MO (by decide) g_770 l_o rfl rfl rfl (Nat.le_of_ble_eq_true rfl) (by first | exact Or.inl ⟨by omega, by omega⟩ | exact Or.inr ⟨by omega, by omega⟩) (fun H_10 p_11 z_12 q_13 => ?_)
          have k_14 := l_x.kept (q_13 _ (by omega))
          have k_15 := l_t.kept (q_13 _ (by omega))
          have k_16 := y_a.kept (q_13 _ (by omega))
          refine x_aload_n ho 3 d_MO_partsOfText_46 rfl ?_
          refine x_get 13 ho d_MO_partsOfText_47 cl_MO (by decide) g_770 p_11 rfl ?_
          refine x_aload_n ho 3 d_MO_partsOfText_50 rfl ?_
          refine x_get 11 ho d_MO_partsOfText_51 cl_MO (by decide) g_768 p_11 rfl ?_
          refine x_icmp_eq (tgt := 71) ho d_MO_partsOfText_54 (by decide) (by omega) (by omega) (fun c_54 => ?_) (fun c_54 => ?_)
          ·
            refine x_bipush (z := (-5)) ho d_MO_partsOfText_71 (by decide) ?_
            refine x_iret ho hr d_MO_partsOfText_73 ?_
            exact Or.inr ⟨_, rfl, by rw [hg1.1, ha1, pt_bf (by omega) (fun q => by omega)]; show ¬ (k + 1) = -1; omega, by rw [hg1.1, ha1, pt_bf (by omega) (fun q => by omega)]; exact p_11, k_14, k_15⟩
          ·
            refine x_aload_n ho 3 d_MO_partsOfText_57 rfl ?_
            refine x_get 12 ho d_MO_partsOfText_58 cl_MO (by decide) g_769 p_11 rfl ?_
            refine x_aload_n ho 3 d_MO_partsOfText_61 rfl ?_
            refine x_get 13 ho d_MO_partsOfText_62 cl_MO (by decide) g_770 p_11 rfl ?_
            refine x_cald ho d_MO_partsOfText_65 k_16 (by omega) (by omega) (by omega) ?_
            refine x_eqI (b := gA L (k + 1)) (by exact y_r (k + 1) (by omega) (by omega)) ?_
            have hcr1 := ca_r y_w (z := k + 1) (by omega) (by omega)
            refine x_bipush (z := 61) ho d_MO_partsOfText_66 (by decide) ?_
            refine x_icmp_eq (tgt := 74) ho d_MO_partsOfText_68 (by decide) (by omega) (by omega) (fun c_68 => ?_) (fun c_68 => ?_)
            ·
              refine x_aload_n ho 3 d_MO_partsOfText_74 rfl ?_
              refine x_dup ho d_MO_partsOfText_75 rfl ?_
              refine x_get 13 ho d_MO_partsOfText_76 cl_MO (by decide) g_770 p_11 rfl ?_
              refine x_iconst ho d_MO_partsOfText_79 ?_
              refine x_iadd ho d_MO_partsOfText_80 ?_
              refine x_put 13 ho d_MO_partsOfText_81 cl_MO (by decide) g_770 p_11 rfl rfl rfl (Nat.le_of_ble_eq_true rfl) (by first | exact Or.inl ⟨by omega, by omega⟩ | exact Or.inr ⟨by omega, by omega⟩) (fun H_17 p_18 z_19 q_20 => ?_)
              have k_21 := k_14.kept (q_20 _ (by omega))
              have k_22 := k_15.kept (q_20 _ (by omega))
              have k_23 := k_16.kept (q_20 _ (by omega))
              have ha2 := pt_b (L := L) (l := gA L k - 97) (c := zU c (gA L k - 97) []) (k := k + 1) (by omega) (by omega) c_68
              refine x_iconst ho d_MO_partsOfText_84 ?_
              refine x_istore (L' := [(4, zV 0), (3, zV ((gA L k) - 97)), (2, zV g), (1, zV pt), (0, .ref m)]) ho d_MO_partsOfText_85 (by decide) rfl ?_
              have loop_87 : ∀ (kk : Nat) (n : Int) (i : Int) (T : Int → Int) (Xs : List Int) (H_24 : Heap) (l_o : At D H_24 m (oO 11 [.ref (m + 1), .ref (m + 2), zV kp, .ref (m + 3), zV fl, .ref (m + 4), .ref (m + 5), .ref (m + 6), zV fo, .ref (m + 7), zV di, zV ((L.length : Int)), .ref (m + 8), zV i, .ref (m + 9), .ref (m + 10), .ref (m + 11)])) (l_x : isTx D H_24 (m + 8) L) (l_t : At D H_24 (m + 4) (oI D 301 T)) (i0 : k + 2 ≤ i ∧ i ≤ (L.length : Int)) (hn : n = (Xs.length : Int)) (n8 : 0 ≤ n ∧ n ≤ 8) (hA : aut L 0 (-1) c0 0 = aut (L.drop i.toNat) 2 (gA L k - 97) (zU c (gA L k - 97) Xs) i) (hX : rpX T c (gA L k - 97)) (hK : rpK T Xs (gA L k - 97) n) (hw : wf Xs) (hcn : pt = cn (tk L i) 59), ((L.length : Int) - i).toNat < kk → X M ({ frames := 2, cells := 0, slots := 0, locals := 42 } : Room) 5 (fun z => (m ≤ z ∧ z < m + 1) ∨ (m + 4 ≤ z ∧ z < m + 5)) 0 0 (Qof M (fun z => (m ≤ z ∧ z < m + 1) ∨ (m + 4 ≤ z ∧ z < m + 5)) (q_MO_partsOfText D m kp fl fo di az L T0 c0) 0 0) 87 [(4, zV n), (3, zV ((gA L k) - 97)), (2, zV g), (1, zV pt), (0, .ref m)] [] H_24 := by
                intro kk
                induction kk with
                | zero => intro n i T Xs H_24 l_o l_x l_t i0 hn n8 hA hX hK hw hcn hk; exact absurd hk (Nat.not_lt_zero _)
                | succ kk ih_87 =>
                  intro n i T Xs H_24 l_o l_x l_t i0 hn n8 hA hX hK hw hcn hk_87
                  refine x_iload ho 0 d_MO_partsOfText_87 rfl ?_
                  refine x_bipush (z := 8) ho d_MO_partsOfText_89 (by decide) ?_
                  refine x_icmp_ge (tgt := 143) ho d_MO_partsOfText_91 (by decide) (by omega) (by omega) (fun c_91 => ?_) (fun c_91 => ?_)
                  ·
                    have hex : 8 ≤ n ∨ ¬ (i < (L.length : Int) ∧ ¬ ltr (gA L i) = -1) := Or.inl c_91
                    refine x_aload_n ho 4 d_MO_partsOfText_143 rfl ?_
                    obtain ⟨⟨w_f, w_a, w_r⟩, w_l, w_w⟩ := id l_x
                    refine x_get 5 ho d_MO_partsOfText_144 cl_MO (by decide) g_762 l_o rfl ?_
                    refine x_bipush (z := 9) ho d_MO_partsOfText_147 (by decide) ?_
                    refine x_iload_n ho 1 d_MO_partsOfText_149 rfl ?_
                    refine x_imul ho d_MO_partsOfText_150 ?_
                    refine x_iload ho 0 d_MO_partsOfText_151 rfl ?_
                    refine x_iast ho d_MO_partsOfText_153 l_t (by omega) (by omega) (by omega) (by first | exact Or.inl ⟨by omega, by omega⟩ | exact Or.inr ⟨by omega, by omega⟩) (fun H_25 p_26 z_27 q_28 => ?_)
                    have k_29 := l_o.kept (q_28 _ (by omega))
                    have k_30 := l_x.kept (q_28 _ (by omega))
                    have k_31 := w_a.kept (q_28 _ (by omega))
                    refine x_iinc (L' := [(1, zV (pt + 1)), (4, zV n), (3, zV ((gA L k) - 97)), (2, zV g), (0, .ref m)]) ho 3 d_MO_partsOfText_154 rfl rfl (by decide) rfl ?_
                    refine x_aload_n ho 4 d_MO_partsOfText_157 rfl ?_
                    refine x_get 13 ho d_MO_partsOfText_158 cl_MO (by decide) g_770 k_29 rfl ?_
                    refine x_aload_n ho 4 d_MO_partsOfText_161 rfl ?_
                    refine x_get 11 ho d_MO_partsOfText_162 cl_MO (by decide) g_768 k_29 rfl ?_
                    refine x_icmp_ge (tgt := 172) ho d_MO_partsOfText_165 (by decide) (by omega) (by omega) (fun c_165 => ?_) (fun c_165 => ?_)
                    ·
                      refine x_iconst ho d_MO_partsOfText_172 ?_
                      refine x_istore_n (L' := [(2, zV 0), (1, zV (pt + 1)), (4, zV n), (3, zV ((gA L k) - 97)), (0, .ref m)]) ho d_MO_partsOfText_173 (by decide) rfl ?_
                      refine x_iload ho 2 d_MO_partsOfText_174 rfl ?_
                      refine x_if_eq (tgt := 197) ho d_MO_partsOfText_176 (by decide) (by omega) (fun c_176 => ?_) (fun c_176 => ?_)
                      ·
                        omega
                      ·
                        refine x_iload_n ho 0 d_MO_partsOfText_179 rfl ?_
                        refine x_if_eq (tgt := 200) ho d_MO_partsOfText_180 (by decide) (by omega) (fun _ => ?_) (fun c => absurd c (by decide))
                        refine x_aload_n ho 4 d_MO_partsOfText_200 rfl ?_
                        refine x_dup ho d_MO_partsOfText_201 rfl ?_
                        refine x_get 13 ho d_MO_partsOfText_202 cl_MO (by decide) g_770 k_29 rfl ?_
                        refine x_iload_n ho 0 d_MO_partsOfText_205 rfl ?_
                        refine x_if_eq (tgt := 213) ho d_MO_partsOfText_206 (by decide) (by omega) (fun _ => ?_) (fun c => absurd c (by decide))
                        refine x_iconst ho d_MO_partsOfText_213 ?_
                        refine x_iadd ho d_MO_partsOfText_214 ?_
                        refine x_put 13 ho d_MO_partsOfText_215 cl_MO (by decide) g_770 k_29 rfl rfl rfl (Nat.le_of_ble_eq_true rfl) (by first | exact Or.inl ⟨by omega, by omega⟩ | exact Or.inr ⟨by omega, by omega⟩) (fun H_32 p_33 z_34 q_35 => ?_)
                        have k_36 := k_30.kept (q_35 _ (by omega))
                        have k_37 := k_31.kept (q_35 _ (by omega))
                        have k_38 := p_26.kept (q_35 _ (by omega))
                        refine x_goto (tgt := 9) ho d_MO_partsOfText_218 (by decide) ?_
                        refine x_sub (L' := [(2, zV 0), (1, zV (pt + 1)), (0, .ref m)]) [0, 1, 4] rfl ?_
                        exact ih_9 0 (pt + 1) (i + 0) (zU T (9 * (gA L k - 97)) n) (zU c (gA L k - 97) Xs) (gA L k - 97) H_32 p_33 k_36 k_38 (by omega) (by omega) (by exact Or.inr ⟨rfl, by rw [hA, pt_z (by omega), if_pos (by omega)], by rw [hcn, tk_all (by omega)]; omega, by omega⟩) (by exact rpX_end hX hc (by omega) hK hn) (by exact okR_z hc ⟨by omega, by omega, hw⟩) (by omega)
                    ·
                      refine x_iconst ho d_MO_partsOfText_168 ?_
                      refine x_goto (tgt := 173) ho d_MO_partsOfText_169 (by decide) ?_
                      refine x_istore_n (L' := [(2, zV 1), (1, zV (pt + 1)), (4, zV n), (3, zV ((gA L k) - 97)), (0, .ref m)]) ho d_MO_partsOfText_173 (by decide) rfl ?_
                      refine x_iload ho 2 d_MO_partsOfText_174 rfl ?_
                      refine x_if_eq (tgt := 197) ho d_MO_partsOfText_176 (by decide) (by omega) (fun c_176 => ?_) (fun c_176 => ?_)
                      ·
                        omega
                      ·
                        refine x_iload_n ho 0 d_MO_partsOfText_179 rfl ?_
                        refine x_if_eq (tgt := 200) ho d_MO_partsOfText_180 (by decide) (by omega) (fun c => absurd c (by decide)) (fun _ => ?_)
                        refine x_aload_n ho 4 d_MO_partsOfText_183 rfl ?_
                        refine x_get 12 ho d_MO_partsOfText_184 cl_MO (by decide) g_769 k_29 rfl ?_
                        refine x_aload_n ho 4 d_MO_partsOfText_187 rfl ?_
                        refine x_get 13 ho d_MO_partsOfText_188 cl_MO (by decide) g_770 k_29 rfl ?_
                        refine x_cald ho d_MO_partsOfText_191 k_31 (by omega) (by omega) (by omega) ?_
                        refine x_eqI (b := gA L i) (by exact w_r i (by omega) (by omega)) ?_
                        have hcr3 := ca_r w_w (z := i) (by omega) (by omega)
                        refine x_bipush (z := 59) ho d_MO_partsOfText_192 (by decide) ?_
                        refine x_icmp_eq (tgt := 200) ho d_MO_partsOfText_194 (by decide) (by omega) (by omega) (fun c_194 => ?_) (fun c_194 => ?_)
                        ·
                          refine x_aload_n ho 4 d_MO_partsOfText_200 rfl ?_
                          refine x_dup ho d_MO_partsOfText_201 rfl ?_
                          refine x_get 13 ho d_MO_partsOfText_202 cl_MO (by decide) g_770 k_29 rfl ?_
                          refine x_iload_n ho 0 d_MO_partsOfText_205 rfl ?_
                          refine x_if_eq (tgt := 213) ho d_MO_partsOfText_206 (by decide) (by omega) (fun c => absurd c (by decide)) (fun _ => ?_)
                          refine x_iconst ho d_MO_partsOfText_209 ?_
                          refine x_goto (tgt := 214) ho d_MO_partsOfText_210 (by decide) ?_
                          refine x_iadd ho d_MO_partsOfText_214 ?_
                          refine x_put 13 ho d_MO_partsOfText_215 cl_MO (by decide) g_770 k_29 rfl rfl rfl (Nat.le_of_ble_eq_true rfl) (by first | exact Or.inl ⟨by omega, by omega⟩ | exact Or.inr ⟨by omega, by omega⟩) (fun H_39 p_40 z_41 q_42 => ?_)
                          have k_43 := k_30.kept (q_42 _ (by omega))
                          have k_44 := k_31.kept (q_42 _ (by omega))
                          have k_45 := p_26.kept (q_42 _ (by omega))
                          refine x_goto (tgt := 9) ho d_MO_partsOfText_218 (by decide) ?_
                          refine x_sub (L' := [(2, zV 1), (1, zV (pt + 1)), (0, .ref m)]) [0, 1, 4] rfl ?_
                          exact ih_9 1 (pt + 1) (i + 1) (zU T (9 * (gA L k - 97)) n) (zU c (gA L k - 97) Xs) (gA L k - 97) H_39 p_40 k_43 k_45 (by omega) (by omega) (by exact Or.inl ⟨rfl, by rw [hA]; exact pt_c (by omega) (by omega) c_194 (by omega), by rw [cn_yes (by omega) (by omega) c_194, hcn]⟩) (by exact rpX_end hX hc (by omega) hK hn) (by exact okR_z hc ⟨by omega, by omega, hw⟩) (by omega)
                        ·
                          refine x_bipush (z := (-5)) ho d_MO_partsOfText_197 (by decide) ?_
                          refine x_iret ho hr d_MO_partsOfText_199 ?_
                          exact Or.inr ⟨_, rfl, by rw [hA, pt_e (by omega) (by omega) (Or.inr c_194) (by rcases hex with z | z; exact Or.inl (by omega); exact Or.inr (Classical.not_not.mp fun w => z ⟨by omega, w⟩))]; show ¬ i = -1; omega, by rw [hA, pt_e (by omega) (by omega) (Or.inr c_194) (by rcases hex with z | z; exact Or.inl (by omega); exact Or.inr (Classical.not_not.mp fun w => z ⟨by omega, w⟩))]; exact k_29, k_30, p_26⟩
                  ·
                    refine x_aload_n ho 4 d_MO_partsOfText_94 rfl ?_
                    refine x_callV (rest := []) ho d_MO_partsOfText_95 yv_MO_isLetter g_820 g_24 g_819 (c_MO_isLetter M.2.1 D m kp fl fo di i L (by omega)) rfl rfl ⟨Nat.le_of_ble_eq_true rfl, Nat.le_of_ble_eq_true rfl⟩ ⟨Nat.le_of_ble_eq_true rfl, Nat.le_of_ble_eq_true rfl⟩ rfl rfl (Nat.le_of_ble_eq_true rfl) l_o rfl rfl ⟨l_o, l_x⟩ fr_none' (x_rd (fun v_46 hv_46 => ?_))
                    obtain rfl := hv_46
                    show X _ _ _ _ _ _ _ _ _ [zV (bI (i < (L.length : Int) ∧ ¬ ltr (gA L i) = -1))] _
                    refine x_if_eqB (tgt := 143) ho d_MO_partsOfText_98 (by decide) (fun c_98 => ?_) (fun c_98 => ?_)
                    ·
                      have hex : 8 ≤ n ∨ ¬ (i < (L.length : Int) ∧ ¬ ltr (gA L i) = -1) := Or.inr c_98
                      refine x_aload_n ho 4 d_MO_partsOfText_143 rfl ?_
                      obtain ⟨⟨w_f, w_a, w_r⟩, w_l, w_w⟩ := id l_x
                      refine x_get 5 ho d_MO_partsOfText_144 cl_MO (by decide) g_762 l_o rfl ?_
                      refine x_bipush (z := 9) ho d_MO_partsOfText_147 (by decide) ?_
                      refine x_iload_n ho 1 d_MO_partsOfText_149 rfl ?_
                      refine x_imul ho d_MO_partsOfText_150 ?_
                      refine x_iload ho 0 d_MO_partsOfText_151 rfl ?_
                      refine x_iast ho d_MO_partsOfText_153 l_t (by omega) (by omega) (by omega) (by first | exact Or.inl ⟨by omega, by omega⟩ | exact Or.inr ⟨by omega, by omega⟩) (fun H_48 p_49 z_50 q_51 => ?_)
                      have k_52 := l_o.kept (q_51 _ (by omega))
                      have k_53 := l_x.kept (q_51 _ (by omega))
                      have k_54 := w_a.kept (q_51 _ (by omega))
                      refine x_iinc (L' := [(1, zV (pt + 1)), (4, zV n), (3, zV ((gA L k) - 97)), (2, zV g), (0, .ref m)]) ho 3 d_MO_partsOfText_154 rfl rfl (by decide) rfl ?_
                      refine x_aload_n ho 4 d_MO_partsOfText_157 rfl ?_
                      refine x_get 13 ho d_MO_partsOfText_158 cl_MO (by decide) g_770 k_52 rfl ?_
                      refine x_aload_n ho 4 d_MO_partsOfText_161 rfl ?_
                      refine x_get 11 ho d_MO_partsOfText_162 cl_MO (by decide) g_768 k_52 rfl ?_
                      refine x_icmp_ge (tgt := 172) ho d_MO_partsOfText_165 (by decide) (by omega) (by omega) (fun c_165 => ?_) (fun c_165 => ?_)
                      ·
                        refine x_iconst ho d_MO_partsOfText_172 ?_
                        refine x_istore_n (L' := [(2, zV 0), (1, zV (pt + 1)), (4, zV n), (3, zV ((gA L k) - 97)), (0, .ref m)]) ho d_MO_partsOfText_173 (by decide) rfl ?_
                        refine x_iload ho 2 d_MO_partsOfText_174 rfl ?_
                        refine x_if_eq (tgt := 197) ho d_MO_partsOfText_176 (by decide) (by omega) (fun c_176 => ?_) (fun c_176 => ?_)
                        ·
                          refine x_bipush (z := (-5)) ho d_MO_partsOfText_197 (by decide) ?_
                          refine x_iret ho hr d_MO_partsOfText_199 ?_
                          exact Or.inr ⟨_, rfl, by rw [hA, pt_z (by omega), if_neg (by omega)]; show ¬ i = -1; omega, by rw [hA, pt_z (by omega), if_neg (by omega)]; exact k_52, k_53, p_49⟩
                        ·
                          refine x_iload_n ho 0 d_MO_partsOfText_179 rfl ?_
                          refine x_if_eq (tgt := 200) ho d_MO_partsOfText_180 (by decide) (by omega) (fun _ => ?_) (fun c => absurd c (by decide))
                          refine x_aload_n ho 4 d_MO_partsOfText_200 rfl ?_
                          refine x_dup ho d_MO_partsOfText_201 rfl ?_
                          refine x_get 13 ho d_MO_partsOfText_202 cl_MO (by decide) g_770 k_52 rfl ?_
                          refine x_iload_n ho 0 d_MO_partsOfText_205 rfl ?_
                          refine x_if_eq (tgt := 213) ho d_MO_partsOfText_206 (by decide) (by omega) (fun _ => ?_) (fun c => absurd c (by decide))
                          refine x_iconst ho d_MO_partsOfText_213 ?_
                          refine x_iadd ho d_MO_partsOfText_214 ?_
                          refine x_put 13 ho d_MO_partsOfText_215 cl_MO (by decide) g_770 k_52 rfl rfl rfl (Nat.le_of_ble_eq_true rfl) (by first | exact Or.inl ⟨by omega, by omega⟩ | exact Or.inr ⟨by omega, by omega⟩) (fun H_55 p_56 z_57 q_58 => ?_)
                          have k_59 := k_53.kept (q_58 _ (by omega))
                          have k_60 := k_54.kept (q_58 _ (by omega))
                          have k_61 := p_49.kept (q_58 _ (by omega))
                          refine x_goto (tgt := 9) ho d_MO_partsOfText_218 (by decide) ?_
                          refine x_sub (L' := [(2, zV 0), (1, zV (pt + 1)), (0, .ref m)]) [0, 1, 4] rfl ?_
                          exact ih_9 0 (pt + 1) (i + 0) (zU T (9 * (gA L k - 97)) n) (zU c (gA L k - 97) Xs) (gA L k - 97) H_55 p_56 k_59 k_61 (by omega) (by omega) (by exact Or.inr ⟨rfl, by rw [hA, pt_z (by omega), if_pos (by omega)], by rw [hcn, tk_all (by omega)]; omega, by omega⟩) (by exact rpX_end hX hc (by omega) hK hn) (by exact okR_z hc ⟨by omega, by omega, hw⟩) (by omega)
                      ·
                        refine x_iconst ho d_MO_partsOfText_168 ?_
                        refine x_goto (tgt := 173) ho d_MO_partsOfText_169 (by decide) ?_
                        refine x_istore_n (L' := [(2, zV 1), (1, zV (pt + 1)), (4, zV n), (3, zV ((gA L k) - 97)), (0, .ref m)]) ho d_MO_partsOfText_173 (by decide) rfl ?_
                        refine x_iload ho 2 d_MO_partsOfText_174 rfl ?_
                        refine x_if_eq (tgt := 197) ho d_MO_partsOfText_176 (by decide) (by omega) (fun c_176 => ?_) (fun c_176 => ?_)
                        ·
                          refine x_bipush (z := (-5)) ho d_MO_partsOfText_197 (by decide) ?_
                          refine x_iret ho hr d_MO_partsOfText_199 ?_
                          exact Or.inr ⟨_, rfl, by rw [hA, pt_e (by omega) (by omega) (Or.inl (by omega)) (by rcases hex with z | z; exact Or.inl (by omega); exact Or.inr (Classical.not_not.mp fun w => z ⟨by omega, w⟩))]; show ¬ i = -1; omega, by rw [hA, pt_e (by omega) (by omega) (Or.inl (by omega)) (by rcases hex with z | z; exact Or.inl (by omega); exact Or.inr (Classical.not_not.mp fun w => z ⟨by omega, w⟩))]; exact k_52, k_53, p_49⟩
                        ·
                          refine x_iload_n ho 0 d_MO_partsOfText_179 rfl ?_
                          refine x_if_eq (tgt := 200) ho d_MO_partsOfText_180 (by decide) (by omega) (fun c => absurd c (by decide)) (fun _ => ?_)
                          refine x_aload_n ho 4 d_MO_partsOfText_183 rfl ?_
                          refine x_get 12 ho d_MO_partsOfText_184 cl_MO (by decide) g_769 k_52 rfl ?_
                          refine x_aload_n ho 4 d_MO_partsOfText_187 rfl ?_
                          refine x_get 13 ho d_MO_partsOfText_188 cl_MO (by decide) g_770 k_52 rfl ?_
                          refine x_cald ho d_MO_partsOfText_191 k_54 (by omega) (by omega) (by omega) ?_
                          refine x_eqI (b := gA L i) (by exact w_r i (by omega) (by omega)) ?_
                          have hcr3 := ca_r w_w (z := i) (by omega) (by omega)
                          refine x_bipush (z := 59) ho d_MO_partsOfText_192 (by decide) ?_
                          refine x_icmp_eq (tgt := 200) ho d_MO_partsOfText_194 (by decide) (by omega) (by omega) (fun c_194 => ?_) (fun c_194 => ?_)
                          ·
                            refine x_aload_n ho 4 d_MO_partsOfText_200 rfl ?_
                            refine x_dup ho d_MO_partsOfText_201 rfl ?_
                            refine x_get 13 ho d_MO_partsOfText_202 cl_MO (by decide) g_770 k_52 rfl ?_
                            refine x_iload_n ho 0 d_MO_partsOfText_205 rfl ?_
                            refine x_if_eq (tgt := 213) ho d_MO_partsOfText_206 (by decide) (by omega) (fun c => absurd c (by decide)) (fun _ => ?_)
                            refine x_iconst ho d_MO_partsOfText_209 ?_
                            refine x_goto (tgt := 214) ho d_MO_partsOfText_210 (by decide) ?_
                            refine x_iadd ho d_MO_partsOfText_214 ?_
                            refine x_put 13 ho d_MO_partsOfText_215 cl_MO (by decide) g_770 k_52 rfl rfl rfl (Nat.le_of_ble_eq_true rfl) (by first | exact Or.inl ⟨by omega, by omega⟩ | exact Or.inr ⟨by omega, by omega⟩) (fun H_62 p_63 z_64 q_65 => ?_)
                            have k_66 := k_53.kept (q_65 _ (by omega))
                            have k_67 := k_54.kept (q_65 _ (by omega))
                            have k_68 := p_49.kept (q_65 _ (by omega))
                            refine x_goto (tgt := 9) ho d_MO_partsOfText_218 (by decide) ?_
                            refine x_sub (L' := [(2, zV 1), (1, zV (pt + 1)), (0, .ref m)]) [0, 1, 4] rfl ?_
                            exact ih_9 1 (pt + 1) (i + 1) (zU T (9 * (gA L k - 97)) n) (zU c (gA L k - 97) Xs) (gA L k - 97) H_62 p_63 k_66 k_68 (by omega) (by omega) (by exact Or.inl ⟨rfl, by rw [hA]; exact pt_c (by omega) (by omega) c_194 (by omega), by rw [cn_yes (by omega) (by omega) c_194, hcn]⟩) (by exact rpX_end hX hc (by omega) hK hn) (by exact okR_z hc ⟨by omega, by omega, hw⟩) (by omega)
                          ·
                            refine x_bipush (z := (-5)) ho d_MO_partsOfText_197 (by decide) ?_
                            refine x_iret ho hr d_MO_partsOfText_199 ?_
                            exact Or.inr ⟨_, rfl, by rw [hA, pt_e (by omega) (by omega) (Or.inr c_194) (by rcases hex with z | z; exact Or.inl (by omega); exact Or.inr (Classical.not_not.mp fun w => z ⟨by omega, w⟩))]; show ¬ i = -1; omega, by rw [hA, pt_e (by omega) (by omega) (Or.inr c_194) (by rcases hex with z | z; exact Or.inl (by omega); exact Or.inr (Classical.not_not.mp fun w => z ⟨by omega, w⟩))]; exact k_52, k_53, p_49⟩
                    ·
                      obtain ⟨⟨w_f, w_a, w_r⟩, w_l, w_w⟩ := id l_x
                      have hlw := ltr_v c_98.2
                      refine x_aload_n ho 4 d_MO_partsOfText_101 rfl ?_
                      refine x_get 5 ho d_MO_partsOfText_102 cl_MO (by decide) g_762 l_o rfl ?_
                      refine x_bipush (z := 9) ho d_MO_partsOfText_105 (by decide) ?_
                      refine x_iload_n ho 1 d_MO_partsOfText_107 rfl ?_
                      refine x_imul ho d_MO_partsOfText_108 ?_
                      refine x_iconst ho d_MO_partsOfText_109 ?_
                      refine x_iadd ho d_MO_partsOfText_110 ?_
                      refine x_iload ho 0 d_MO_partsOfText_111 rfl ?_
                      refine x_iadd ho d_MO_partsOfText_113 ?_
                      refine x_aload_n ho 4 d_MO_partsOfText_114 rfl ?_
                      refine x_get 12 ho d_MO_partsOfText_115 cl_MO (by decide) g_769 l_o rfl ?_
                      refine x_aload_n ho 4 d_MO_partsOfText_118 rfl ?_
                      refine x_get 13 ho d_MO_partsOfText_119 cl_MO (by decide) g_770 l_o rfl ?_
                      refine x_cald ho d_MO_partsOfText_122 w_a (by omega) (by omega) (by omega) ?_
                      refine x_eqI (b := gA L i) (by exact w_r i (by omega) (by omega)) ?_
                      refine x_bipush (z := 97) ho d_MO_partsOfText_123 (by decide) ?_
                      refine x_isub ho d_MO_partsOfText_125 ?_
                      refine x_iast ho d_MO_partsOfText_126 l_t (by omega) (by omega) (by omega) (by first | exact Or.inl ⟨by omega, by omega⟩ | exact Or.inr ⟨by omega, by omega⟩) (fun H_69 p_70 z_71 q_72 => ?_)
                      have k_73 := l_o.kept (q_72 _ (by omega))
                      have k_74 := l_x.kept (q_72 _ (by omega))
                      have k_75 := w_a.kept (q_72 _ (by omega))
                      refine x_iinc (L' := [(4, zV (n + 1)), (3, zV ((gA L k) - 97)), (2, zV g), (1, zV pt), (0, .ref m)]) ho 0 d_MO_partsOfText_127 rfl rfl (by decide) rfl ?_
                      refine x_aload_n ho 4 d_MO_partsOfText_130 rfl ?_
                      refine x_dup ho d_MO_partsOfText_131 rfl ?_
                      refine x_get 13 ho d_MO_partsOfText_132 cl_MO (by decide) g_770 k_73 rfl ?_
                      refine x_iconst ho d_MO_partsOfText_135 ?_
                      refine x_iadd ho d_MO_partsOfText_136 ?_
                      refine x_put 13 ho d_MO_partsOfText_137 cl_MO (by decide) g_770 k_73 rfl rfl rfl (Nat.le_of_ble_eq_true rfl) (by first | exact Or.inl ⟨by omega, by omega⟩ | exact Or.inr ⟨by omega, by omega⟩) (fun H_76 p_77 z_78 q_79 => ?_)
                      have k_80 := k_74.kept (q_79 _ (by omega))
                      have k_81 := k_75.kept (q_79 _ (by omega))
                      have k_82 := p_70.kept (q_79 _ (by omega))
                      refine x_goto (tgt := 87) ho d_MO_partsOfText_140 (by decide) ?_
                      exact ih_87 (n + 1) (i + 1) (zU T (9 * (gA L k - 97) + 1 + n) (gA L i - 97)) (Xs ++ [gA L i - 97]) H_76 p_77 k_80 k_82 (by omega) (by rw [snoc_len]; omega) (by omega) (by rw [hA]; exact pt_d (by omega) (by omega) c_98.2 (by omega)) (by exact rpX_z hX hc (by omega) ⟨by omega, by omega⟩) (by intro q a b; by_cases hq : q = n; rw [hq, zU_s]; rw [hn, gA_snoc]; rw [zU_n _ _ (by omega), gA_app1 a (by omega)]; exact hK q a (by omega)) (by exact wf_app hw (wf_one hlw.2.1 hlw.2.2)) (by rw [cn_no (by omega) (by omega) (ltr_59 c_98.2)]; exact hcn) (by omega)
              exact loop_87 _ 0 (k + 1 + 1) T ([]) H_17 p_18 k_21 k_22 (by omega) (by rfl) (by omega) (by rw [hg1.1, ha1, ha2]) (by exact rpX_of hT) (by exact rpK_0) (by exact wf_nil) (by rw [cn_no (by omega) (by omega) (by omega), cn_no (by omega) (by omega) (ltr_59 c_17.2)]; exact hg1.2) (Nat.lt_succ_self _)
            ·
              refine x_bipush (z := (-5)) ho d_MO_partsOfText_71 (by decide) ?_
              refine x_iret ho hr d_MO_partsOfText_73 ?_
              exact Or.inr ⟨_, rfl, by rw [hg1.1, ha1, pt_bf (by omega) (fun _ => c_68)]; show ¬ (k + 1) = -1; omega, by rw [hg1.1, ha1, pt_bf (by omega) (fun _ => c_68)]; exact p_11, k_14, k_15⟩
        ·
          refine x_bipush (z := (-5)) ho d_MO_partsOfText_20 (by decide) ?_
          refine x_iret ho hr d_MO_partsOfText_22 ?_
          exact Or.inr ⟨_, rfl, by rw [hg1.1, pt_af k0.1 c_17]; show ¬ k = -1; omega, by rw [hg1.1, pt_af k0.1 c_17]; exact l_o, l_x, l_t⟩
  exact loop_9 _ 1 0 0 T0 c0 (-1) H_1 p_2 k_5 k_6 (by omega) (by omega) (by exact Or.inl ⟨rfl, rfl, by rw [tk_0]; rfl⟩) (by exact hT0) (by exact hc0) (Nat.lt_succ_self _)
