def q_PT_fill (D : GG) (o : Nat) (fd : Int) (g : Int → Int64) (b : Nat) (n : Nat) (L : List Int) (s : Int) : Option Value → Heap → Prop := fun v0 H => ∃ (g2 : Int → Int64), v0 = none ∧ (∀ p : Int, 0 ≤ p → p < nP L s → g2 p = lN (cdN L p s.toNat)) ∧ isPT D H o (nP L s) g2 ∧ isL D H b n L
theorem yv_PT_fill : Yv y_PT_fill b_PT_fill 8 (Option.none : Option FieldType) 2 := ⟨g_621, g_61, by decide, by decide +kernel⟩
set_option maxHeartbeats 4000000 in
set_option maxRecDepth 100000 in
theorem c_PT_fill (l0 : Launch) (D : GG) (o : Nat) (fd : Int) (g : Int → Int64) (b : Nat) (n : Nat) (L : List Int) (s : Int) (hd : o + 2 ≤ b ∨ b + 2 ≤ o) (hs : 1 ≤ s ∧ s ≤ 20) : Ct l0 D y_PT_fill b_PT_fill 8 (Option.none : Option FieldType) ({ frames := 1, cells := 0, slots := 0, locals := 21 } : Room) [.ref o, .ref b, zV s] (fun H => isPT D H o fd g ∧ isL D H b n L) (rA o (o + 2)) 0 0 (q_PT_fill D o fd g b n L s) := by
  refine Ct.of (L := [(0, .ref o), (1, .ref b), (2, zV s)]) (by decide) (Nat.le_of_ble_eq_true rfl) rfl (fun M H ho hr hnm hH hpre => ?_)
  obtain ⟨hT, hL⟩ := hpre
  obtain ⟨h_o, h_c⟩ := id hT
  have h_n := hL.b
  have h_w := hL.w
  have h40 := p40 (s := s.toNat) (by omega)
  have e2s : (2 * s).toNat = 2 * s.toNat := by omega
  refine x_aload_n ho 0 d_PT_fill_0 rfl ?_
  refine x_iconst ho d_PT_fill_1 ?_
  refine x_put 1 ho d_PT_fill_2 cl_PT (by decide) g_184 h_o rfl rfl rfl (Nat.le_of_ble_eq_true rfl) (rA_in (by omega) (by omega)) (fun H_1 p_2 z_3 q_4 => ?_)
  have k_5 := hL.kept (fun q g1 g2 => q_4 q (by omega))
  have k_6 := h_c.kept (q_4 _ (by omega))
  refine x_lconst ho d_PT_fill_5 ?_
  refine x_iconst ho d_PT_fill_6 ?_
  refine x_iload_n ho 2 d_PT_fill_7 rfl ?_
  refine x_imul ho d_PT_fill_8 ?_
  refine x_lshl (v := lN (2 ^ (2 * s).toNat)) ho d_PT_fill_9 (lsh1 (by omega)) ?_
  refine x_lconst ho d_PT_fill_10 ?_
  refine x_lsub (v := lN (2 ^ (2 * s).toNat - 1)) ho d_PT_fill_11 (lN_sub Nat.one_le_two_pow) ?_
  refine x_lstore_n (L' := [(3, .long (lN (2 ^ (2 * s).toNat - 1))), (0, .ref o), (1, .ref b), (2, zV s)]) ho d_PT_fill_12 (by decide) rfl ?_
  refine x_lconst ho d_PT_fill_13 ?_
  refine x_lstore (L' := [(5, .long (lN 0)), (3, .long (lN (2 ^ (2 * s).toNat - 1))), (0, .ref o), (1, .ref b), (2, zV s)]) ho d_PT_fill_14 (by decide) rfl ?_
  refine x_iconst ho d_PT_fill_16 ?_
  refine x_istore (L' := [(7, zV 0), (5, .long (lN 0)), (3, .long (lN (2 ^ (2 * s).toNat - 1))), (0, .ref o), (1, .ref b), (2, zV s)]) ho d_PT_fill_17 (by decide) rfl ?_
  have loop_19 : ∀ (kk : Nat) (i : Int) (cv : Int64) (f2 : Int) (g2 : Int → Int64) (H_7 : Heap) (k_o : At D H_7 o (oO 4 [.ref (o + 1), zV f2])) (k_c : At D H_7 (o + 1) (oJ D 300 g2)) (k_L : isL D H_7 b n L) (i0 : 0 ≤ i ∧ i ≤ (L.length : Int)) (hcv : cv = lN (cdN L 0 i.toNat % 4 ^ s.toNat)) (hf : f2 = if s ≤ i then i - s + 1 else 0) (hg : ∀ p : Int, 0 ≤ p → p < f2 → g2 p = lN (cdN L p s.toNat)), ((L.length : Int) - i).toNat < kk → X M ({ frames := 1, cells := 0, slots := 0, locals := 21 } : Room) 8 (rA o (o + 2)) 0 0 (Qof M (rA o (o + 2)) (q_PT_fill D o fd g b n L s) 0 0) 19 [(7, zV i), (5, .long cv), (3, .long (lN (2 ^ (2 * s).toNat - 1))), (0, .ref o), (1, .ref b), (2, zV s)] [] H_7 := by
    intro kk
    induction kk with
    | zero => intro i cv f2 g2 H_7 k_o k_c k_L i0 hcv hf hg hk; exact absurd hk (Nat.not_lt_zero _)
    | succ kk ih_19 =>
      intro i cv f2 g2 H_7 k_o k_c k_L i0 hcv hf hg hk_19
      refine x_iload ho 0 d_PT_fill_19 rfl ?_
      refine x_aload_n ho 4 d_PT_fill_21 rfl ?_
      refine x_callV (rest := [zV i]) ho d_PT_fill_22 yv_LE_length g_323 g_324 g_622 (c_LE_length M.2.1 D b n L ) rfl rfl ⟨Nat.le_of_ble_eq_true rfl, Nat.le_of_ble_eq_true rfl⟩ ⟨Nat.le_of_ble_eq_true rfl, Nat.le_of_ble_eq_true rfl⟩ rfl rfl (Nat.le_of_ble_eq_true rfl) k_L.1 rfl rfl k_L fr_none' (x_rd (fun v_8 hv_8 => ?_))
      obtain rfl := hv_8
      show X _ _ _ _ _ _ _ _ _ [zV ((L.length : Int)), zV i] _
      refine x_icmp_ge (tgt := 91) ho d_PT_fill_25 (by decide) (by omega) (by omega) (fun c_25 => ?_) (fun c_25 => ?_)
      ·
        refine x_vret ho hr d_PT_fill_91 ?_
        have e : nP L s = f2 := by unfold nP; rw [hf, show i = (L.length : Int) by omega]
        exact ⟨g2, rfl, by rw [e]; exact hg, by rw [e]; exact ⟨k_o, k_c⟩, k_L⟩
      ·
        refine x_lload ho 1 d_PT_fill_28 rfl ?_
        refine x_iconst ho d_PT_fill_30 ?_
        have hg0 := gA_r h_w i
        have hlt : cdN L 0 i.toNat % 4 ^ s.toNat < 4 ^ s.toNat := Nat.mod_lt _ (Nat.pow_pos (by decide))
        refine x_lshl (v := lN ((cdN L 0 i.toNat % 4 ^ s.toNat) * 4)) ho d_PT_fill_31 (by rw [hcv]; exact lsh2 _) ?_
        refine x_aload_n ho 4 d_PT_fill_32 rfl ?_
        refine x_iload ho 0 d_PT_fill_33 rfl ?_
        refine x_callV (rest := [.long (lN ((cdN L 0 i.toNat % 4 ^ s.toNat) * 4))]) ho d_PT_fill_35 yv_LE_letterAt g_343 g_344 g_623 (c_LE_letterAt M.2.1 D b n L i (by omega)) rfl rfl ⟨Nat.le_of_ble_eq_true rfl, Nat.le_of_ble_eq_true rfl⟩ ⟨Nat.le_of_ble_eq_true rfl, Nat.le_of_ble_eq_true rfl⟩ rfl rfl (Nat.le_of_ble_eq_true rfl) k_L.1 rfl rfl k_L fr_none' (x_rd (fun v_10 hv_10 => ?_))
        obtain ⟨rfl, hr_12⟩ := hv_10
        show X _ _ _ _ _ _ _ _ _ [zV (lat L i), .long (lN ((cdN L 0 i.toNat % 4 ^ s.toNat) * 4))] _
        refine x_eqI (b := gA L i) (by exact lat_in (by omega) (by omega)) ?_
        refine x_i2l (v := lN (gA L i).toNat) ho d_PT_fill_38 (i2l_N hg0) ?_
        refine x_lor (v := lN ((cdN L 0 i.toNat % 4 ^ s.toNat) * 4 ||| (gA L i).toNat)) ho d_PT_fill_39 (wb_or (by omega) (by omega)) ?_
        refine x_lload_n ho 2 d_PT_fill_40 rfl ?_
        refine x_land (v := lN ((cdN L 0 i.toNat * 4 + (gA L i).toNat) % 4 ^ s.toNat)) ho d_PT_fill_41 (by rw [wb_mask (Nat.lt_of_lt_of_le (Nat.or_lt_two_pow (n := 43) (by omega) (by omega)) (by decide)) (by omega), e2s, code_step (by omega)]) ?_
        refine x_lstore (L' := [(5, .long (lN ((cdN L 0 i.toNat * 4 + (gA L i).toNat) % 4 ^ s.toNat))), (7, zV i), (3, .long (lN (2 ^ (2 * s).toNat - 1))), (0, .ref o), (1, .ref b), (2, zV s)]) ho d_PT_fill_42 (by decide) rfl ?_
        refine x_iload ho 1 d_PT_fill_44 rfl ?_
        refine x_iload_n ho 5 d_PT_fill_46 rfl ?_
        refine x_iconst ho d_PT_fill_47 ?_
        refine x_isub ho d_PT_fill_48 ?_
        refine x_icmp_lt (tgt := 85) ho d_PT_fill_49 (by decide) (by omega) (by omega) (fun c_49 => ?_) (fun c_49 => ?_)
        ·
          refine x_iinc (L' := [(7, zV (i + 1)), (5, .long (lN ((cdN L 0 i.toNat * 4 + (gA L i).toNat) % 4 ^ s.toNat))), (3, .long (lN (2 ^ (2 * s).toNat - 1))), (0, .ref o), (1, .ref b), (2, zV s)]) ho 1 d_PT_fill_85 rfl rfl (by decide) rfl ?_
          refine x_goto (tgt := 19) ho d_PT_fill_88 (by decide) ?_
          exact ih_19 (i + 1) (lN ((cdN L 0 i.toNat * 4 + (gA L i).toNat) % 4 ^ s.toNat)) f2 g2 H_7 k_o k_c k_L (by omega) (by rw [show (i + 1).toNat = i.toNat + 1 by omega, cdN, show (0 : Int) + ((i.toNat : Nat) : Int) = i by omega]) (by rw [hf, if_neg (by omega), if_neg (by omega)]) (by exact hg) (by omega)
        ·
          refine x_aload_n ho 3 d_PT_fill_52 rfl ?_
          refine x_get 1 ho d_PT_fill_53 cl_PT (by decide) g_184 k_o rfl ?_
          refine x_aload_n ho 3 d_PT_fill_56 rfl ?_
          refine x_get 0 ho d_PT_fill_57 cl_PT (by decide) g_183 k_o rfl ?_
          refine x_alenJ ho d_PT_fill_60 k_c ?_
          have hf2 : 0 ≤ f2 ∧ f2 ≤ 299 := by rw [hf]; split <;> omega
          refine x_icmp_ge (tgt := 85) ho d_PT_fill_61 (by decide) (by omega) (by omega) (fun c_61 => ?_) (fun c_61 => ?_)
          ·
            rw [hf] at c_61; split at c_61 <;> omega
          ·
            refine x_aload_n ho 3 d_PT_fill_64 rfl ?_
            refine x_get 0 ho d_PT_fill_65 cl_PT (by decide) g_183 k_o rfl ?_
            refine x_aload_n ho 3 d_PT_fill_68 rfl ?_
            refine x_get 1 ho d_PT_fill_69 cl_PT (by decide) g_184 k_o rfl ?_
            refine x_lload ho 0 d_PT_fill_72 rfl ?_
            refine x_last ho d_PT_fill_74 k_c (by omega) (by omega) (by omega) (rA_in (by omega) (by omega)) (fun H_13 p_14 z_15 q_16 => ?_)
            have k_17 := k_o.kept (q_16 _ (by omega))
            have k_18 := k_L.kept (fun q g1 g2 => q_16 q (by omega))
            refine x_aload_n ho 3 d_PT_fill_75 rfl ?_
            refine x_dup ho d_PT_fill_76 rfl ?_
            refine x_get 1 ho d_PT_fill_77 cl_PT (by decide) g_184 k_17 rfl ?_
            refine x_iconst ho d_PT_fill_80 ?_
            refine x_iadd ho d_PT_fill_81 ?_
            refine x_put 1 ho d_PT_fill_82 cl_PT (by decide) g_184 k_17 rfl rfl rfl (Nat.le_of_ble_eq_true rfl) (rA_in (by omega) (by omega)) (fun H_19 p_20 z_21 q_22 => ?_)
            have k_23 := k_18.kept (fun q g1 g2 => q_22 q (by omega))
            have k_24 := p_14.kept (q_22 _ (by omega))
            refine x_iinc (L' := [(7, zV (i + 1)), (5, .long (lN ((cdN L 0 i.toNat * 4 + (gA L i).toNat) % 4 ^ s.toNat))), (3, .long (lN (2 ^ (2 * s).toNat - 1))), (0, .ref o), (1, .ref b), (2, zV s)]) ho 1 d_PT_fill_85 rfl rfl (by decide) rfl ?_
            refine x_goto (tgt := 19) ho d_PT_fill_88 (by decide) ?_
            exact ih_19 (i + 1) (lN ((cdN L 0 i.toNat * 4 + (gA L i).toNat) % 4 ^ s.toNat)) (f2 + 1) (zU g2 f2 (lN ((cdN L 0 i.toNat * 4 + (gA L i).toNat) % 4 ^ s.toNat))) H_19 p_20 k_24 k_23 (by omega) (by rw [show (i + 1).toNat = i.toNat + 1 by omega, cdN, show (0 : Int) + ((i.toNat : Nat) : Int) = i by omega]) (by rw [if_pos (by omega), hf]; split <;> omega) (by
                intro p h0 h1
                by_cases e : p = f2
                · subst e
                  rw [zU_s]
                  have e3 := cdN_mod h_w (i := i.toNat + 1) (s := s.toNat) (by omega)
                  rw [cdN, show (0 : Int) + ((i.toNat : Nat) : Int) = i by omega] at e3
                  rw [e3]
                  congr 2
                  rw [hf]; split <;> omega
                · rw [zU_n _ _ e]; exact hg p h0 (by omega)) (by omega)
  exact loop_19 _ 0 (lN 0) 0 g H_1 p_2 k_6 k_5 (by omega) (by rw [show (0 : Int).toNat = 0 from rfl]; rw [cdN, Nat.zero_mod]) (by rw [if_neg (by omega)]) (by intro p h0 h1; omega) (Nat.lt_succ_self _)
def q_PT_isPlace (D : GG) (o : Nat) (fd : Int) (g : Int → Int64) (z : Int) : Option Value → Heap → Prop := fun v0 H => (v0 = some (zV (bI (0 ≤ z ∧ z < fd ∧ z < 300))))
theorem yv_PT_isPlace : Yv y_PT_isPlace b_PT_isPlace 2 (Option.some FieldType.boolean) 1 := ⟨g_632, g_61, by decide, by decide +kernel⟩
set_option maxHeartbeats 4000000 in
set_option maxRecDepth 100000 in
theorem c_PT_isPlace (l0 : Launch) (D : GG) (o : Nat) (fd : Int) (g : Int → Int64) (z : Int) (hz : -2147483648 ≤ z ∧ z ≤ 2147483647) (hfd : 0 ≤ fd ∧ fd ≤ 300) : Ct l0 D y_PT_isPlace b_PT_isPlace 2 (Option.some FieldType.boolean) ({ frames := 0, cells := 0, slots := 0, locals := 0 } : Room) [.ref o, zV z] (fun H => isPT D H o fd g) nA 0 0 (q_PT_isPlace D o fd g z) := by
  refine Ct.of (L := [(0, .ref o), (1, zV z)]) (by decide) (Nat.le_of_ble_eq_true rfl) rfl (fun M H ho hr hnm hH hpre => ?_)
  have hT := hpre
  obtain ⟨h_o, h_c⟩ := id hT
  refine x_iload_n ho 1 d_PT_isPlace_0 rfl ?_
  refine x_if_lt (tgt := 25) ho d_PT_isPlace_1 (by decide) (by omega) (fun c_1 => ?_) (fun c_1 => ?_)
  ·
    refine x_iconst ho d_PT_isPlace_25 ?_
    refine x_zret ho hr (Or.inl rfl) d_PT_isPlace_26 ?_
    exact rF (by omega)
  ·
    refine x_iload_n ho 1 d_PT_isPlace_4 rfl ?_
    refine x_aload_n ho 0 d_PT_isPlace_5 rfl ?_
    refine x_get 1 ho d_PT_isPlace_6 cl_PT (by decide) g_184 h_o rfl ?_
    refine x_icmp_ge (tgt := 25) ho d_PT_isPlace_9 (by decide) (by omega) (by omega) (fun c_9 => ?_) (fun c_9 => ?_)
    ·
      refine x_iconst ho d_PT_isPlace_25 ?_
      refine x_zret ho hr (Or.inl rfl) d_PT_isPlace_26 ?_
      exact rF (by omega)
    ·
      refine x_iload_n ho 1 d_PT_isPlace_12 rfl ?_
      refine x_aload_n ho 0 d_PT_isPlace_13 rfl ?_
      refine x_get 0 ho d_PT_isPlace_14 cl_PT (by decide) g_183 h_o rfl ?_
      refine x_alenJ ho d_PT_isPlace_17 h_c ?_
      refine x_icmp_ge (tgt := 25) ho d_PT_isPlace_18 (by decide) (by omega) (by omega) (fun c_18 => ?_) (fun c_18 => ?_)
      ·
        refine x_iconst ho d_PT_isPlace_25 ?_
        refine x_zret ho hr (Or.inl rfl) d_PT_isPlace_26 ?_
        exact rF (by omega)
      ·
        refine x_iconst ho d_PT_isPlace_21 ?_
        refine x_goto (tgt := 26) ho d_PT_isPlace_22 (by decide) ?_
        refine x_zret ho hr (Or.inr rfl) d_PT_isPlace_26 ?_
        exact rT (by omega)
def q_PT_isSamePiece (D : GG) (o : Nat) (fd : Int) (g : Int → Int64) (y : Int) (z : Int) : Option Value → Heap → Prop := fun v0 H => v0 = some (zV (bI (g y = g z)))
theorem yv_PT_isSamePiece : Yv y_PT_isSamePiece b_PT_isSamePiece 3 (Option.some FieldType.boolean) 2 := ⟨g_629, g_61, by decide, by decide +kernel⟩
set_option maxHeartbeats 4000000 in
set_option maxRecDepth 100000 in
theorem c_PT_isSamePiece (l0 : Launch) (D : GG) (o : Nat) (fd : Int) (g : Int → Int64) (y : Int) (z : Int) (hy : 0 ≤ y ∧ y < fd ∧ y < 300) (hz : 0 ≤ z ∧ z < fd ∧ z < 300) (hfd : 0 ≤ fd ∧ fd ≤ 300) : Ct l0 D y_PT_isSamePiece b_PT_isSamePiece 3 (Option.some FieldType.boolean) ({ frames := 1, cells := 0, slots := 0, locals := 21 } : Room) [.ref o, zV y, zV z] (fun H => isPT D H o fd g) nA 0 0 (q_PT_isSamePiece D o fd g y z) := by
  refine Ct.of (L := [(0, .ref o), (1, zV y), (2, zV z)]) (by decide) (Nat.le_of_ble_eq_true rfl) rfl (fun M H ho hr hnm hH hpre => ?_)
  have hT := hpre
  obtain ⟨h_o, h_c⟩ := id hT
  refine x_aload_n ho 0 d_PT_isSamePiece_0 rfl ?_
  refine x_iload_n ho 1 d_PT_isSamePiece_1 rfl ?_
  refine x_callV (rest := []) ho d_PT_isSamePiece_2 yv_PT_isPlace g_631 g_15 g_630 (c_PT_isPlace M.2.1 D o fd g y (by omega) (by omega)) rfl rfl ⟨Nat.le_of_ble_eq_true rfl, Nat.le_of_ble_eq_true rfl⟩ ⟨Nat.le_of_ble_eq_true rfl, Nat.le_of_ble_eq_true rfl⟩ rfl rfl (Nat.le_of_ble_eq_true rfl) hT.1 rfl rfl hT fr_none' (x_rd (fun v_1 hv_1 => ?_))
  obtain rfl := hv_1
  show X _ _ _ _ _ _ _ _ _ [zV (bI (0 ≤ y ∧ y < fd ∧ y < 300))] _
  refine x_if_eqB (tgt := 36) ho d_PT_isSamePiece_5 (by decide) (fun c_5 => ?_) (fun c_5 => ?_)
  ·
    exact absurd hy c_5
  ·
    refine x_aload_n ho 0 d_PT_isSamePiece_8 rfl ?_
    refine x_iload_n ho 2 d_PT_isSamePiece_9 rfl ?_
    refine x_callV (rest := []) ho d_PT_isSamePiece_10 yv_PT_isPlace g_631 g_15 g_630 (c_PT_isPlace M.2.1 D o fd g z (by omega) (by omega)) rfl rfl ⟨Nat.le_of_ble_eq_true rfl, Nat.le_of_ble_eq_true rfl⟩ ⟨Nat.le_of_ble_eq_true rfl, Nat.le_of_ble_eq_true rfl⟩ rfl rfl (Nat.le_of_ble_eq_true rfl) hT.1 rfl rfl hT fr_none' (x_rd (fun v_3 hv_3 => ?_))
    obtain rfl := hv_3
    show X _ _ _ _ _ _ _ _ _ [zV (bI (0 ≤ z ∧ z < fd ∧ z < 300))] _
    refine x_if_eqB (tgt := 36) ho d_PT_isSamePiece_13 (by decide) (fun c_13 => ?_) (fun c_13 => ?_)
    ·
      exact absurd hz c_13
    ·
      refine x_aload_n ho 0 d_PT_isSamePiece_16 rfl ?_
      refine x_get 0 ho d_PT_isSamePiece_17 cl_PT (by decide) g_183 hT.1 rfl ?_
      refine x_iload_n ho 1 d_PT_isSamePiece_20 rfl ?_
      refine x_lald ho d_PT_isSamePiece_21 h_c (by omega) (by omega) (by omega) ?_
      refine x_aload_n ho 0 d_PT_isSamePiece_22 rfl ?_
      refine x_get 0 ho d_PT_isSamePiece_23 cl_PT (by decide) g_183 hT.1 rfl ?_
      refine x_iload_n ho 2 d_PT_isSamePiece_26 rfl ?_
      refine x_lald ho d_PT_isSamePiece_27 h_c (by omega) (by omega) (by omega) ?_
      refine x_lcmpne (tgt := 36) ho d_PT_isSamePiece_28 d_PT_isSamePiece_29 (by decide) (fun c_28 => ?_) (fun c_28 => ?_)
      ·
        refine x_iconst ho d_PT_isSamePiece_36 ?_
        refine x_zret ho hr (Or.inl rfl) d_PT_isSamePiece_37 ?_
        exact rF c_28
      ·
        refine x_iconst ho d_PT_isSamePiece_32 ?_
        refine x_goto (tgt := 37) ho d_PT_isSamePiece_33 (by decide) ?_
        refine x_zret ho hr (Or.inr rfl) d_PT_isSamePiece_37 ?_
        exact rT c_28
def q_PT_isFirst (D : GG) (o : Nat) (fd : Int) (g : Int → Int64) (z : Int) : Option Value → Heap → Prop := fun v0 H => (v0 = some (zV (bI (∀ e : Int, 0 ≤ e → e < z → ¬ g e = g z))))
theorem yv_PT_isFirst : Yv y_PT_isFirst b_PT_isFirst 3 (Option.some FieldType.boolean) 1 := ⟨g_626, g_61, by decide, by decide +kernel⟩
set_option maxHeartbeats 4000000 in
set_option maxRecDepth 100000 in
theorem c_PT_isFirst (l0 : Launch) (D : GG) (o : Nat) (fd : Int) (g : Int → Int64) (z : Int) (hz : 0 ≤ z ∧ z < 300 ∧ z < fd ∧ fd ≤ 300) : Ct l0 D y_PT_isFirst b_PT_isFirst 3 (Option.some FieldType.boolean) ({ frames := 2, cells := 0, slots := 0, locals := 43 } : Room) [.ref o, zV z] (fun H => isPT D H o fd g) nA 0 0 (q_PT_isFirst D o fd g z) := by
  refine Ct.of (L := [(0, .ref o), (1, zV z)]) (by decide) (Nat.le_of_ble_eq_true rfl) rfl (fun M H ho hr hnm hH hpre => ?_)
  have hT := hpre
  refine x_iconst ho d_PT_isFirst_0 ?_
  refine x_istore_n (L' := [(2, zV 0), (0, .ref o), (1, zV z)]) ho d_PT_isFirst_1 (by decide) rfl ?_
  have loop_2 : ∀ (kk : Nat) (i : Int) (i0 : 0 ≤ i ∧ i ≤ z) (hj : ∀ e : Int, 0 ≤ e → e < i → ¬ g e = g z), (z - i).toNat < kk → X M ({ frames := 2, cells := 0, slots := 0, locals := 43 } : Room) 3 nA 0 0 (Qof M nA (q_PT_isFirst D o fd g z) 0 0) 2 [(2, zV i), (0, .ref o), (1, zV z)] [] H := by
    intro kk
    induction kk with
    | zero => intro i i0 hj hk; exact absurd hk (Nat.not_lt_zero _)
    | succ kk ih_2 =>
      intro i i0 hj hk_2
      refine x_iload_n ho 0 d_PT_isFirst_2 rfl ?_
      refine x_iload_n ho 2 d_PT_isFirst_3 rfl ?_
      refine x_icmp_ge (tgt := 24) ho d_PT_isFirst_4 (by decide) (by omega) (by omega) (fun c_4 => ?_) (fun c_4 => ?_)
      ·
        refine x_iconst ho d_PT_isFirst_24 ?_
        refine x_zret ho hr (Or.inr rfl) d_PT_isFirst_25 ?_
        exact rT (by intro j h0 h1; exact hj j h0 (by omega))
      ·
        refine x_aload_n ho 1 d_PT_isFirst_7 rfl ?_
        refine x_iload_n ho 0 d_PT_isFirst_8 rfl ?_
        refine x_iload_n ho 2 d_PT_isFirst_9 rfl ?_
        refine x_callV (rest := []) ho d_PT_isFirst_10 yv_PT_isSamePiece g_628 g_14 g_627 (c_PT_isSamePiece M.2.1 D o fd g i z (by omega) (by omega) (by omega)) rfl rfl ⟨Nat.le_of_ble_eq_true rfl, Nat.le_of_ble_eq_true rfl⟩ ⟨Nat.le_of_ble_eq_true rfl, Nat.le_of_ble_eq_true rfl⟩ rfl rfl (Nat.le_of_ble_eq_true rfl) hT.1 rfl rfl hT fr_none' (x_rd (fun v_1 hv_1 => ?_))
        obtain rfl := hv_1
        show X _ _ _ _ _ _ _ _ _ [zV (bI (g i = g z))] _
        refine x_if_eqB (tgt := 18) ho d_PT_isFirst_13 (by decide) (fun c_13 => ?_) (fun c_13 => ?_)
        ·
          refine x_iinc (L' := [(2, zV (i + 1)), (0, .ref o), (1, zV z)]) ho 0 d_PT_isFirst_18 rfl rfl (by decide) rfl ?_
          refine x_goto (tgt := 2) ho d_PT_isFirst_21 (by decide) ?_
          exact ih_2 (i + 1) (by omega) (by intro j h0 h1; rcases (show j < i ∨ j = i by omega) with h | h; exact hj j h0 h; subst h; exact c_13) (by omega)
        ·
          refine x_iconst ho d_PT_isFirst_16 ?_
          refine x_zret ho hr (Or.inl rfl) d_PT_isFirst_17 ?_
          exact rF (by intro h; exact h i (by omega) (by omega) c_13)
  exact loop_2 _ 0 (by omega) (by intro j h0 h1; omega) (Nat.lt_succ_self _)
def q_PT_neighbours (D : GG) (o : Nat) (fd : Int) (g : Int → Int64) (b : Nat) (n : Nat) (L : List Int) (z : Int) (d : Int) : Option Value → Heap → Prop := fun v0 H => (v0 = some (zV (nbN L (fun q => z ≤ q ∧ g q = g z) d fd.toNat))) ∧ (0 ≤ nbN L (fun q => z ≤ q ∧ g q = g z) d fd.toNat ∧ nbN L (fun q => z ≤ q ∧ g q = g z) d fd.toNat < 16)
theorem yv_PT_neighbours : Yv y_PT_neighbours b_PT_neighbours 7 (Option.some FieldType.int) 3 := ⟨g_638, g_61, by decide, by decide +kernel⟩
set_option maxHeartbeats 4000000 in
set_option maxRecDepth 100000 in
theorem c_PT_neighbours (l0 : Launch) (D : GG) (o : Nat) (fd : Int) (g : Int → Int64) (b : Nat) (n : Nat) (L : List Int) (z : Int) (d : Int) (hz : 0 ≤ z ∧ z ≤ fd ∧ z < 300 ∧ fd ≤ 300) (hdd : -1 ≤ d ∧ d ≤ 20) : Ct l0 D y_PT_neighbours b_PT_neighbours 7 (Option.some FieldType.int) ({ frames := 2, cells := 0, slots := 0, locals := 43 } : Room) [.ref o, .ref b, zV z, zV d] (fun H => isPT D H o fd g ∧ isL D H b n L) nA 0 0 (q_PT_neighbours D o fd g b n L z d) := by
  refine Ct.of (L := [(0, .ref o), (1, .ref b), (2, zV z), (3, zV d)]) (by decide) (Nat.le_of_ble_eq_true rfl) rfl (fun M H ho hr hnm hH hpre => ?_)
  obtain ⟨hT, hL⟩ := hpre
  have h_n := hL.b
  have h_w := hL.w
  refine x_iconst ho d_PT_neighbours_0 ?_
  refine x_istore (L' := [(4, zV 0), (0, .ref o), (1, .ref b), (2, zV z), (3, zV d)]) ho d_PT_neighbours_1 (by decide) rfl ?_
  refine x_iload_n ho 3 d_PT_neighbours_3 rfl ?_
  refine x_istore (L' := [(5, zV z), (4, zV 0), (0, .ref o), (1, .ref b), (2, zV z), (3, zV d)]) ho d_PT_neighbours_4 (by decide) rfl ?_
  have loop_6 : ∀ (kk : Nat) (i : Int) (t : Int) (i0 : z ≤ i ∧ i ≤ fd) (ht : t = nbN L (fun q => z ≤ q ∧ g q = g z) d i.toNat), (fd - i).toNat < kk → X M ({ frames := 2, cells := 0, slots := 0, locals := 43 } : Room) 7 nA 0 0 (Qof M nA (q_PT_neighbours D o fd g b n L z d) 0 0) 6 [(5, zV i), (4, zV t), (0, .ref o), (1, .ref b), (2, zV z), (3, zV d)] [] H := by
    intro kk
    induction kk with
    | zero => intro i t i0 ht hk; exact absurd hk (Nat.not_lt_zero _)
    | succ kk ih_6 =>
      intro i t i0 ht hk_6
      refine x_iload ho 0 d_PT_neighbours_6 rfl ?_
      refine x_aload_n ho 2 d_PT_neighbours_8 rfl ?_
      refine x_get 1 ho d_PT_neighbours_9 cl_PT (by decide) g_184 hT.1 rfl ?_
      refine x_icmp_ge (tgt := 56) ho d_PT_neighbours_12 (by decide) (by omega) (by omega) (fun c_12 => ?_) (fun c_12 => ?_)
      ·
        refine x_iload ho 1 d_PT_neighbours_56 rfl ?_
        refine x_iret ho hr d_PT_neighbours_58 ?_
        rw [show i = fd by omega] at ht; subst ht; exact ⟨rfl, nbN_16 h_w _ _ _⟩
      ·
        refine x_aload_n ho 3 d_PT_neighbours_15 rfl ?_
        refine x_iload ho 0 d_PT_neighbours_16 rfl ?_
        refine x_iload_n ho 5 d_PT_neighbours_18 rfl ?_
        refine x_iadd ho d_PT_neighbours_19 ?_
        refine x_callV (rest := []) ho d_PT_neighbours_20 yv_LE_letterAt g_343 g_344 g_623 (c_LE_letterAt M.2.1 D b n L (i + d) (by omega)) rfl rfl ⟨Nat.le_of_ble_eq_true rfl, Nat.le_of_ble_eq_true rfl⟩ ⟨Nat.le_of_ble_eq_true rfl, Nat.le_of_ble_eq_true rfl⟩ rfl rfl (Nat.le_of_ble_eq_true rfl) hL.1 rfl rfl hL fr_none' (x_rd (fun v_1 hv_1 => ?_))
        obtain ⟨rfl, hr_3⟩ := hv_1
        show X _ _ _ _ _ _ _ _ _ [zV (lat L (i + d))] _
        refine x_istore (L' := [(6, zV (lat L (i + d))), (5, zV i), (4, zV t), (0, .ref o), (1, .ref b), (2, zV z), (3, zV d)]) ho d_PT_neighbours_23 (by decide) rfl ?_
        refine x_iload ho 0 d_PT_neighbours_25 rfl ?_
        refine x_iconst ho d_PT_neighbours_27 ?_
        refine x_icmp_eq (tgt := 50) ho d_PT_neighbours_28 (by decide) (by omega) (by omega) (fun c_28 => ?_) (fun c_28 => ?_)
        ·
          refine x_iinc (L' := [(5, zV (i + 1)), (6, zV (lat L (i + d))), (4, zV t), (0, .ref o), (1, .ref b), (2, zV z), (3, zV d)]) ho 1 d_PT_neighbours_50 rfl rfl (by decide) rfl ?_
          refine x_goto (tgt := 6) ho d_PT_neighbours_53 (by decide) ?_
          refine x_sub (L' := [(5, zV (i + 1)), (4, zV t), (0, .ref o), (1, .ref b), (2, zV z), (3, zV d)]) [0, 2, 3, 4, 5, 6] rfl ?_
          exact ih_6 (i + 1) t (by omega) (by rw [show (i + 1).toNat = i.toNat + 1 by omega, nbN_f (by rw [show ((i.toNat : Nat) : Int) = i by omega]; exact fun q => q.1 c_28)]; exact ht) (by omega)
        ·
          refine x_aload_n ho 3 d_PT_neighbours_31 rfl ?_
          refine x_iload_n ho 5 d_PT_neighbours_32 rfl ?_
          refine x_iload ho 1 d_PT_neighbours_33 rfl ?_
          refine x_callV (rest := []) ho d_PT_neighbours_35 yv_PT_isSamePiece g_628 g_14 g_627 (c_PT_isSamePiece M.2.1 D o fd g z i (by omega) (by omega) (by omega)) rfl rfl ⟨Nat.le_of_ble_eq_true rfl, Nat.le_of_ble_eq_true rfl⟩ ⟨Nat.le_of_ble_eq_true rfl, Nat.le_of_ble_eq_true rfl⟩ rfl rfl (Nat.le_of_ble_eq_true rfl) hT.1 rfl rfl hT fr_none' (x_rd (fun v_4 hv_4 => ?_))
          obtain rfl := hv_4
          show X _ _ _ _ _ _ _ _ _ [zV (bI (g z = g i))] _
          refine x_if_eqB (tgt := 50) ho d_PT_neighbours_38 (by decide) (fun c_38 => ?_) (fun c_38 => ?_)
          ·
            refine x_iinc (L' := [(5, zV (i + 1)), (6, zV (lat L (i + d))), (4, zV t), (0, .ref o), (1, .ref b), (2, zV z), (3, zV d)]) ho 1 d_PT_neighbours_50 rfl rfl (by decide) rfl ?_
            refine x_goto (tgt := 6) ho d_PT_neighbours_53 (by decide) ?_
            refine x_sub (L' := [(5, zV (i + 1)), (4, zV t), (0, .ref o), (1, .ref b), (2, zV z), (3, zV d)]) [0, 2, 3, 4, 5, 6] rfl ?_
            exact ih_6 (i + 1) t (by omega) (by rw [show (i + 1).toNat = i.toNat + 1 by omega, nbN_f (by rw [show ((i.toNat : Nat) : Int) = i by omega]; exact fun q => c_38 q.2.2.symm)]; exact ht) (by omega)
          ·
            refine x_iload ho 2 d_PT_neighbours_41 rfl ?_
            refine x_iconst ho d_PT_neighbours_43 ?_
            refine x_iload ho 0 d_PT_neighbours_44 rfl ?_
            have ht16 := nbN_16 h_w (fun q => z ≤ q ∧ g q = g z) d i.toNat
            rw [← ht] at ht16
            have hs16 := sh_16 (x := lat L (i + d)) (by omega) (by omega)
            refine x_shl1 ho d_PT_neighbours_46 (by omega) ?_
            refine x_or16 ho d_PT_neighbours_47 ht16 hs16 ?_
            refine x_istore (L' := [(4, zV (orI t (sh (lat L (i + d))))), (6, zV (lat L (i + d))), (5, zV i), (0, .ref o), (1, .ref b), (2, zV z), (3, zV d)]) ho d_PT_neighbours_48 (by decide) rfl ?_
            refine x_iinc (L' := [(5, zV (i + 1)), (4, zV (orI t (sh (lat L (i + d))))), (6, zV (lat L (i + d))), (0, .ref o), (1, .ref b), (2, zV z), (3, zV d)]) ho 2 d_PT_neighbours_50 rfl rfl (by decide) rfl ?_
            refine x_goto (tgt := 6) ho d_PT_neighbours_53 (by decide) ?_
            refine x_sub (L' := [(5, zV (i + 1)), (4, zV (orI t (sh (lat L (i + d))))), (0, .ref o), (1, .ref b), (2, zV z), (3, zV d)]) [0, 1, 3, 4, 5, 6] rfl ?_
            exact ih_6 (i + 1) (orI t (sh (lat L (i + d)))) (by omega) (by rw [show (i + 1).toNat = i.toNat + 1 by omega, nbN_t (by rw [show ((i.toNat : Nat) : Int) = i by omega]; exact ⟨c_28, i0.1, c_38.symm⟩), ← ht, show ((i.toNat : Nat) : Int) = i by omega]) (by omega)
  exact loop_6 _ z 0 (by omega) (by exact (nbN_none _ (fun q h0 h1 z => by have := z.1; omega)).symm) (Nat.lt_succ_self _)
def q_PT_isCounted (D : GG) (o : Nat) (fd : Int) (g : Int → Int64) (b : Nat) (n : Nat) (L : List Int) (z : Int) (s : Int) (k : Int) : Option Value → Heap → Prop := fun v0 H => (v0 = some (zV (bI (ctP L (fun q => z ≤ q ∧ g q = g z) z s k fd.toNat))))
theorem yv_PT_isCounted : Yv y_PT_isCounted b_PT_isCounted 5 (Option.some FieldType.boolean) 4 := ⟨g_635, g_61, by decide, by decide +kernel⟩
set_option maxHeartbeats 4000000 in
set_option maxRecDepth 100000 in
theorem c_PT_isCounted (l0 : Launch) (D : GG) (o : Nat) (fd : Int) (g : Int → Int64) (b : Nat) (n : Nat) (L : List Int) (z : Int) (s : Int) (k : Int) (hz : 0 ≤ z ∧ z ≤ fd ∧ z < 300 ∧ fd ≤ 300) (hs : 1 ≤ s ∧ s ≤ 20 ∧ z + s ≤ (L.length : Int)) (hk : -2147483648 ≤ k ∧ k ≤ 2147483647) : Ct l0 D y_PT_isCounted b_PT_isCounted 5 (Option.some FieldType.boolean) ({ frames := 3, cells := 0, slots := 0, locals := 69 } : Room) [.ref o, .ref b, zV z, zV s, zV k] (fun H => isPT D H o fd g ∧ isL D H b n L) nA 0 0 (q_PT_isCounted D o fd g b n L z s k) := by
  refine Ct.of (L := [(0, .ref o), (1, .ref b), (2, zV z), (3, zV s), (4, zV k)]) (by decide) (Nat.le_of_ble_eq_true rfl) rfl (fun M H ho hr hnm hH hpre => ?_)
  obtain ⟨hT, hL⟩ := hpre
  refine x_iload ho 4 d_PT_isCounted_0 rfl ?_
  rcases (show (k < 1 ∨ 3 < k) ∨ k = 1 ∨ k = 2 ∨ k = 3 by omega) with sw_2 | sw_2 | sw_2 | sw_2
  ·
    refine x_tabOut (tgt := 75) ho d_PT_isCounted_2 (by omega) sw_2 (by decide) ?_
    refine x_iconst ho d_PT_isCounted_75 ?_
    refine x_zret ho hr (Or.inr rfl) d_PT_isCounted_76 ?_
    exact rT ⟨fun h => by omega, fun h => by omega, fun h => by omega⟩
  ·
    refine x_tabIn (tgt := 28) (off := 26) ho 1 d_PT_isCounted_2 sw_2 (by decide) (by decide) rfl (by decide) ?_
    refine x_aload_n ho 0 d_PT_isCounted_28 rfl ?_
    refine x_aload_n ho 1 d_PT_isCounted_29 rfl ?_
    refine x_iload_n ho 2 d_PT_isCounted_30 rfl ?_
    refine x_iload_n ho 3 d_PT_isCounted_31 rfl ?_
    refine x_callV (rest := []) ho d_PT_isCounted_32 yv_PT_neighbours g_637 g_17 g_636 (c_PT_neighbours M.2.1 D o fd g b n L z s (by omega) (by omega)) rfl rfl ⟨Nat.le_of_ble_eq_true rfl, Nat.le_of_ble_eq_true rfl⟩ ⟨Nat.le_of_ble_eq_true rfl, Nat.le_of_ble_eq_true rfl⟩ rfl rfl (Nat.le_of_ble_eq_true rfl) hT.1 rfl rfl ⟨hT, hL⟩ fr_none' (x_rd (fun v_1 hv_1 => ?_))
    obtain ⟨rfl, hr_3⟩ := hv_1
    show X _ _ _ _ _ _ _ _ _ [zV (nbN L (fun q => z ≤ q ∧ g q = g z) s fd.toNat)] _
    refine x_callS (rest := []) ho d_PT_isCounted_35 yv_IN_bitCount g_640 g_639 (c_IN_bitCount M.2.1 D (nbN L (fun q => z ≤ q ∧ g q = g z) s fd.toNat) (by omega)) rfl rfl ⟨Nat.le_of_ble_eq_true rfl, Nat.le_of_ble_eq_true rfl⟩ ⟨Nat.le_of_ble_eq_true rfl, Nat.le_of_ble_eq_true rfl⟩ rfl rfl (Nat.le_of_ble_eq_true rfl) trivial fr_none' (x_rd (fun v_4 hv_4 => ?_))
    obtain rfl := hv_4
    show X _ _ _ _ _ _ _ _ _ [zV (pop (nbN L (fun q => z ≤ q ∧ g q = g z) s fd.toNat))] _
    refine x_iconst ho d_PT_isCounted_38 ?_
    have hp0 : 0 ≤ pop (nbN L (fun q => z ≤ q ∧ g q = g z) s fd.toNat) ∧ pop (nbN L (fun q => z ≤ q ∧ g q = g z) s fd.toNat) ≤ 4 := by unfold pop; omega
    refine x_icmp_lt (tgt := 46) ho d_PT_isCounted_39 (by decide) (by omega) (by omega) (fun c_39 => ?_) (fun c_39 => ?_)
    ·
      refine x_iconst ho d_PT_isCounted_46 ?_
      refine x_zret ho hr (Or.inl rfl) d_PT_isCounted_47 ?_
      exact rF (fun q => by have := q.1 sw_2; omega)
    ·
      refine x_iconst ho d_PT_isCounted_42 ?_
      refine x_goto (tgt := 47) ho d_PT_isCounted_43 (by decide) ?_
      refine x_zret ho hr (Or.inr rfl) d_PT_isCounted_47 ?_
      exact rT ⟨fun _ => by omega, fun h => by omega, fun h => by omega⟩
  ·
    refine x_tabIn (tgt := 48) (off := 46) ho 2 d_PT_isCounted_2 sw_2 (by decide) (by decide) rfl (by decide) ?_
    refine x_aload_n ho 0 d_PT_isCounted_48 rfl ?_
    refine x_aload_n ho 1 d_PT_isCounted_49 rfl ?_
    refine x_iload_n ho 2 d_PT_isCounted_50 rfl ?_
    refine x_iconst ho d_PT_isCounted_51 ?_
    refine x_callV (rest := []) ho d_PT_isCounted_52 yv_PT_neighbours g_637 g_17 g_636 (c_PT_neighbours M.2.1 D o fd g b n L z (-1) (by omega) (by omega)) rfl rfl ⟨Nat.le_of_ble_eq_true rfl, Nat.le_of_ble_eq_true rfl⟩ ⟨Nat.le_of_ble_eq_true rfl, Nat.le_of_ble_eq_true rfl⟩ rfl rfl (Nat.le_of_ble_eq_true rfl) hT.1 rfl rfl ⟨hT, hL⟩ fr_none' (x_rd (fun v_6 hv_6 => ?_))
    obtain ⟨rfl, hr_8⟩ := hv_6
    show X _ _ _ _ _ _ _ _ _ [zV (nbN L (fun q => z ≤ q ∧ g q = g z) (-1) fd.toNat)] _
    refine x_callS (rest := []) ho d_PT_isCounted_55 yv_IN_bitCount g_640 g_639 (c_IN_bitCount M.2.1 D (nbN L (fun q => z ≤ q ∧ g q = g z) (-1) fd.toNat) (by omega)) rfl rfl ⟨Nat.le_of_ble_eq_true rfl, Nat.le_of_ble_eq_true rfl⟩ ⟨Nat.le_of_ble_eq_true rfl, Nat.le_of_ble_eq_true rfl⟩ rfl rfl (Nat.le_of_ble_eq_true rfl) trivial fr_none' (x_rd (fun v_9 hv_9 => ?_))
    obtain rfl := hv_9
    show X _ _ _ _ _ _ _ _ _ [zV (pop (nbN L (fun q => z ≤ q ∧ g q = g z) (-1) fd.toNat))] _
    refine x_iconst ho d_PT_isCounted_58 ?_
    have hp0 : 0 ≤ pop (nbN L (fun q => z ≤ q ∧ g q = g z) (-1) fd.toNat) ∧ pop (nbN L (fun q => z ≤ q ∧ g q = g z) (-1) fd.toNat) ≤ 4 := by unfold pop; omega
    refine x_icmp_lt (tgt := 66) ho d_PT_isCounted_59 (by decide) (by omega) (by omega) (fun c_59 => ?_) (fun c_59 => ?_)
    ·
      refine x_iconst ho d_PT_isCounted_66 ?_
      refine x_zret ho hr (Or.inl rfl) d_PT_isCounted_67 ?_
      exact rF (fun q => by have := q.2.1 sw_2; omega)
    ·
      refine x_iconst ho d_PT_isCounted_62 ?_
      refine x_goto (tgt := 67) ho d_PT_isCounted_63 (by decide) ?_
      refine x_zret ho hr (Or.inr rfl) d_PT_isCounted_67 ?_
      exact rT ⟨fun h => by omega, fun _ => by omega, fun h => by omega⟩
  ·
    refine x_tabIn (tgt := 68) (off := 66) ho 3 d_PT_isCounted_2 sw_2 (by decide) (by decide) rfl (by decide) ?_
    refine x_aload_n ho 1 d_PT_isCounted_68 rfl ?_
    refine x_iload_n ho 2 d_PT_isCounted_69 rfl ?_
    refine x_iload_n ho 3 d_PT_isCounted_70 rfl ?_
    refine x_callV (rest := []) ho d_PT_isCounted_71 yv_LE_isMirrored g_646 g_647 g_645 (c_LE_isMirrored M.2.1 D b n L z s (by omega) (by omega)) rfl rfl ⟨Nat.le_of_ble_eq_true rfl, Nat.le_of_ble_eq_true rfl⟩ ⟨Nat.le_of_ble_eq_true rfl, Nat.le_of_ble_eq_true rfl⟩ rfl rfl (Nat.le_of_ble_eq_true rfl) hL.1 rfl rfl hL fr_none' (x_rd (fun v_11 hv_11 => ?_))
    obtain rfl := hv_11
    show X _ _ _ _ _ _ _ _ _ [zV (bI (∀ j : Int, 0 ≤ j → j < s / 2 → lat L (z + j) = lat L (z + s - 1 - j)))] _
    refine x_zret ho hr (bI_01 _) d_PT_isCounted_74 ?_
    exact rI (bI_iff ⟨fun q => ⟨fun h => by omega, fun h => by omega, fun _ => (mir_lat hz.1 (by omega) hs.2.2).mp q⟩, fun q => (mir_lat hz.1 (by omega) hs.2.2).mpr (q.2.2 sw_2)⟩)
def q_PT_tell (D : GG) (o : Nat) (fd : Int) (g : Int → Int64) (b : Nat) (n : Nat) (L : List Int) (s : Int) (k : Int) : Option Value → Heap → Prop := fun v0 H => ∃ (f3 : Int) (g3 : Int → Int64), v0 = some (zV (pcs L s k)) ∧ isPT D H o f3 g3 ∧ isL D H b n L
theorem yv_PT_tell : Yv y_PT_tell b_PT_tell 6 (Option.some FieldType.int) 3 := ⟨g_618, g_61, by decide, by decide +kernel⟩
set_option maxHeartbeats 4000000 in
set_option maxRecDepth 100000 in
theorem c_PT_tell (l0 : Launch) (D : GG) (o : Nat) (fd : Int) (g : Int → Int64) (b : Nat) (n : Nat) (L : List Int) (s : Int) (k : Int) (hd : o + 2 ≤ b ∨ b + 2 ≤ o) (hs : 1 ≤ s ∧ s ≤ 20) (hk : 0 ≤ k ∧ k ≤ 3) : Ct l0 D y_PT_tell b_PT_tell 6 (Option.some FieldType.int) ({ frames := 4, cells := 0, slots := 0, locals := 93 } : Room) [.ref o, .ref b, zV s, zV k] (fun H => isPT D H o fd g ∧ isL D H b n L) (rA o (o + 2)) 0 0 (q_PT_tell D o fd g b n L s k) := by
  refine Ct.of (L := [(0, .ref o), (1, .ref b), (2, zV s), (3, zV k)]) (by decide) (Nat.le_of_ble_eq_true rfl) rfl (fun M H ho hr hnm hH hpre => ?_)
  obtain ⟨hT, hL⟩ := hpre
  have h_n := hL.b
  have h_w := hL.w
  have hnp : 0 ≤ nP L s ∧ nP L s ≤ 300 ∧ (nP L s = 0 ∨ nP L s + s = (L.length : Int) + 1) := by unfold nP; split <;> omega
  refine x_aload_n ho 0 d_PT_tell_0 rfl ?_
  refine x_aload_n ho 1 d_PT_tell_1 rfl ?_
  refine x_iload_n ho 2 d_PT_tell_2 rfl ?_
  refine x_callV (rest := []) ho d_PT_tell_3 yv_PT_fill g_620 g_12 g_619 (c_PT_fill M.2.1 D o fd g b n L s (by omega) (by omega)) rfl rfl ⟨Nat.le_of_ble_eq_true rfl, Nat.le_of_ble_eq_true rfl⟩ ⟨Nat.le_of_ble_eq_true rfl, Nat.le_of_ble_eq_true rfl⟩ rfl rfl (Nat.le_of_ble_eq_true rfl) hT.1 rfl rfl ⟨hT, hL⟩ (rA_sub (by omega) (by omega)) (fun v_1 H_3 hv_1 f_2 => ?_)
  obtain ⟨g2_4, rfl, hg_5, hT_6, hL_7⟩ := hv_1
  show X _ _ _ _ _ _ _ _ _ [] _
  refine x_iconst ho d_PT_tell_6 ?_
  refine x_istore (L' := [(4, zV 0), (0, .ref o), (1, .ref b), (2, zV s), (3, zV k)]) ho d_PT_tell_7 (by decide) rfl ?_
  refine x_iconst ho d_PT_tell_9 ?_
  refine x_istore (L' := [(5, zV 0), (4, zV 0), (0, .ref o), (1, .ref b), (2, zV s), (3, zV k)]) ho d_PT_tell_10 (by decide) rfl ?_
  have loop_12 : ∀ (kk : Nat) (i : Int) (t : Int) (i0 : 0 ≤ i ∧ i ≤ nP L s) (ht : t = pcN (fun p => (∀ e : Int, 0 ≤ e → e < p → ¬ g2_4 e = g2_4 p) ∧ ctP L (fun q => p ≤ q ∧ g2_4 q = g2_4 p) p s k (nP L s).toNat) i.toNat), (nP L s - i).toNat < kk → X M ({ frames := 4, cells := 0, slots := 0, locals := 93 } : Room) 6 (rA o (o + 2)) 0 0 (Qof M (rA o (o + 2)) (q_PT_tell D o fd g b n L s k) 0 0) 12 [(5, zV i), (4, zV t), (0, .ref o), (1, .ref b), (2, zV s), (3, zV k)] [] H_3 := by
    intro kk
    induction kk with
    | zero => intro i t i0 ht hk; exact absurd hk (Nat.not_lt_zero _)
    | succ kk ih_12 =>
      intro i t i0 ht hk_12
      refine x_iload ho 0 d_PT_tell_12 rfl ?_
      refine x_aload_n ho 2 d_PT_tell_14 rfl ?_
      refine x_get 1 ho d_PT_tell_15 cl_PT (by decide) g_184 hT_6.1 rfl ?_
      refine x_icmp_ge (tgt := 51) ho d_PT_tell_18 (by decide) (by omega) (by omega) (fun c_18 => ?_) (fun c_18 => ?_)
      ·
        refine x_iload ho 1 d_PT_tell_51 rfl ?_
        refine x_iret ho hr d_PT_tell_53 ?_
        rw [show i = nP L s by omega, pcs_of h_w hs hg_5] at ht; subst ht; exact ⟨_, _, rfl, hT_6, hL_7⟩
      ·
        refine x_aload_n ho 2 d_PT_tell_21 rfl ?_
        refine x_iload ho 0 d_PT_tell_22 rfl ?_
        refine x_callV (rest := []) ho d_PT_tell_24 yv_PT_isFirst g_625 g_13 g_624 (c_PT_isFirst M.2.1 D o (nP L s) g2_4 i (by omega)) rfl rfl ⟨Nat.le_of_ble_eq_true rfl, Nat.le_of_ble_eq_true rfl⟩ ⟨Nat.le_of_ble_eq_true rfl, Nat.le_of_ble_eq_true rfl⟩ rfl rfl (Nat.le_of_ble_eq_true rfl) hT_6.1 rfl rfl hT_6 fr_none' (x_rd (fun v_8 hv_8 => ?_))
        obtain rfl := hv_8
        show X _ _ _ _ _ _ _ _ _ [zV (bI (∀ e : Int, 0 ≤ e → e < i → ¬ g2_4 e = g2_4 i))] _
        refine x_if_eqB (tgt := 45) ho d_PT_tell_27 (by decide) (fun c_27 => ?_) (fun c_27 => ?_)
        ·
          refine x_iinc (L' := [(5, zV (i + 1)), (4, zV t), (0, .ref o), (1, .ref b), (2, zV s), (3, zV k)]) ho 0 d_PT_tell_45 rfl rfl (by decide) rfl ?_
          refine x_goto (tgt := 12) ho d_PT_tell_48 (by decide) ?_
          exact ih_12 (i + 1) t (by omega) (by rw [show (i + 1).toNat = i.toNat + 1 by omega, pcN, show ((i.toNat : Nat) : Int) = i by omega, bI_f (fun q => c_27 q.1), ← ht]; omega) (by omega)
        ·
          refine x_aload_n ho 2 d_PT_tell_30 rfl ?_
          refine x_aload_n ho 3 d_PT_tell_31 rfl ?_
          refine x_iload ho 0 d_PT_tell_32 rfl ?_
          refine x_iload_n ho 4 d_PT_tell_34 rfl ?_
          refine x_iload_n ho 5 d_PT_tell_35 rfl ?_
          refine x_callV (rest := []) ho d_PT_tell_36 yv_PT_isCounted g_634 g_16 g_633 (c_PT_isCounted M.2.1 D o (nP L s) g2_4 b n L i s k (by omega) (by omega) (by omega)) rfl rfl ⟨Nat.le_of_ble_eq_true rfl, Nat.le_of_ble_eq_true rfl⟩ ⟨Nat.le_of_ble_eq_true rfl, Nat.le_of_ble_eq_true rfl⟩ rfl rfl (Nat.le_of_ble_eq_true rfl) hT_6.1 rfl rfl ⟨hT_6, hL_7⟩ fr_none' (x_rd (fun v_10 hv_10 => ?_))
          obtain rfl := hv_10
          show X _ _ _ _ _ _ _ _ _ [zV (bI (ctP L (fun q => i ≤ q ∧ g2_4 q = g2_4 i) i s k (nP L s).toNat))] _
          refine x_if_eqB (tgt := 45) ho d_PT_tell_39 (by decide) (fun c_39 => ?_) (fun c_39 => ?_)
          ·
            refine x_iinc (L' := [(5, zV (i + 1)), (4, zV t), (0, .ref o), (1, .ref b), (2, zV s), (3, zV k)]) ho 0 d_PT_tell_45 rfl rfl (by decide) rfl ?_
            refine x_goto (tgt := 12) ho d_PT_tell_48 (by decide) ?_
            exact ih_12 (i + 1) t (by omega) (by rw [show (i + 1).toNat = i.toNat + 1 by omega, pcN, show ((i.toNat : Nat) : Int) = i by omega, bI_f (fun q => c_39 q.2), ← ht]; omega) (by omega)
          ·
            refine x_iinc (L' := [(4, zV (t + 1)), (5, zV i), (0, .ref o), (1, .ref b), (2, zV s), (3, zV k)]) ho 1 d_PT_tell_42 rfl rfl (by decide) rfl ?_
            refine x_iinc (L' := [(5, zV (i + 1)), (4, zV (t + 1)), (0, .ref o), (1, .ref b), (2, zV s), (3, zV k)]) ho 1 d_PT_tell_45 rfl rfl (by decide) rfl ?_
            refine x_goto (tgt := 12) ho d_PT_tell_48 (by decide) ?_
            exact ih_12 (i + 1) (t + 1) (by omega) (by rw [show (i + 1).toNat = i.toNat + 1 by omega, pcN, show ((i.toNat : Nat) : Int) = i by omega, bI_t ⟨c_27, c_39⟩, ← ht]) (by omega)
  exact loop_12 _ 0 0 (by omega) (by rfl) (Nat.lt_succ_self _)
