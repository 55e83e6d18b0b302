def q_GR_find (D : GG) (o : Nat) (pe : Int) (pl : Int) (le : Int) (b : Nat) (n : Nat) (L : List Int) : Option Value → Heap → Prop := fun v0 H => ∃ (s : Int × Int × Int), v0 = none ∧ s = grO L ((L.length : Int) - 1).toNat ∧ (1 ≤ s.1 ∧ s.1 ≤ 300 ∧ 0 ≤ s.2.2 ∧ s.2.2 ≤ 300) ∧ isG D H o s.1 s.2.1 s.2.2 ∧ isL D H b n L
theorem yv_GR_find : Yv y_GR_find b_GR_find 3 (Option.none : Option FieldType) 1 := ⟨g_672, g_62, by decide, by decide +kernel⟩
set_option maxHeartbeats 4000000 in
set_option maxRecDepth 100000 in
theorem c_GR_find (l0 : Launch) (D : GG) (o : Nat) (pe : Int) (pl : Int) (le : Int) (b : Nat) (n : Nat) (L : List Int) (hd : o + 1 ≤ b ∨ b + 2 ≤ o) : Ct l0 D y_GR_find b_GR_find 3 (Option.none : Option FieldType) ({ frames := 2, cells := 0, slots := 0, locals := 46 } : Room) [.ref o, .ref b] (fun H => isG D H o pe pl le ∧ isL D H b n L) (rA o (o + 1)) 0 0 (q_GR_find D o pe pl le b n L) := by
  refine Ct.of (L := [(0, .ref o), (1, .ref b)]) (by decide) (Nat.le_of_ble_eq_true rfl) rfl (fun M H ho hr hnm hH hpre => ?_)
  obtain ⟨hG, hL⟩ := hpre
  have h_n := hL.b
  refine x_aload_n ho 0 d_GR_find_0 rfl ?_
  refine x_iconst ho d_GR_find_1 ?_
  refine x_put 0 ho d_GR_find_2 cl_GR (by decide) g_196 hG rfl rfl rfl (Nat.le_of_ble_eq_true rfl) (rA_in (by omega) (by omega)) (fun H_1 p_2 z_3 q_4 => ?_)
  have k_5 := hL.kept (fun q g1 g2 => q_4 q (by omega))
  refine x_aload_n ho 0 d_GR_find_5 rfl ?_
  refine x_iconst ho d_GR_find_6 ?_
  refine x_put 1 ho d_GR_find_7 cl_GR (by decide) g_197 p_2 rfl rfl rfl (Nat.le_of_ble_eq_true rfl) (rA_in (by omega) (by omega)) (fun H_6 p_7 z_8 q_9 => ?_)
  have k_10 := k_5.kept (fun q g1 g2 => q_9 q (by omega))
  refine x_aload_n ho 0 d_GR_find_10 rfl ?_
  refine x_iconst ho d_GR_find_11 ?_
  refine x_put 2 ho d_GR_find_12 cl_GR (by decide) g_198 p_7 rfl rfl rfl (Nat.le_of_ble_eq_true rfl) (rA_in (by omega) (by omega)) (fun H_11 p_12 z_13 q_14 => ?_)
  have k_15 := k_10.kept (fun q g1 g2 => q_14 q (by omega))
  refine x_iconst ho d_GR_find_15 ?_
  refine x_istore_n (L' := [(2, zV 1), (0, .ref o), (1, .ref b)]) ho d_GR_find_16 (by decide) rfl ?_
  have loop_17 : ∀ (kk : Nat) (i : Int) (s : Int × Int × Int) (H_16 : Heap) (k_G : isG D H_16 o s.1 s.2.1 s.2.2) (k_L : isL D H_16 b n L) (i0 : 1 ≤ i ∧ (i ≤ (L.length : Int) ∨ i = 1)) (hs : s = grO L (i - 1).toNat) (hb : 1 ≤ s.1 ∧ s.1 ≤ 300 ∧ 0 ≤ s.2.2 ∧ s.2.2 ≤ 300), ((L.length : Int) - i).toNat < kk → X M ({ frames := 2, cells := 0, slots := 0, locals := 46 } : Room) 3 (rA o (o + 1)) 0 0 (Qof M (rA o (o + 1)) (q_GR_find D o pe pl le b n L) 0 0) 17 [(2, zV i), (0, .ref o), (1, .ref b)] [] H_16 := by
    intro kk
    induction kk with
    | zero => intro i s H_16 k_G k_L i0 hs hb hk; exact absurd hk (Nat.not_lt_zero _)
    | succ kk ih_17 =>
      intro i s H_16 k_G k_L i0 hs hb hk_17
      refine x_iload_n ho 0 d_GR_find_17 rfl ?_
      refine x_aload_n ho 2 d_GR_find_18 rfl ?_
      refine x_callV (rest := [zV i]) ho d_GR_find_19 yv_LE_length g_323 g_324 g_673 (c_LE_length M.2.1 D b n L ) rfl rfl ⟨Nat.le_of_ble_eq_true rfl, Nat.le_of_ble_eq_true rfl⟩ ⟨Nat.le_of_ble_eq_true rfl, Nat.le_of_ble_eq_true rfl⟩ rfl rfl (Nat.le_of_ble_eq_true rfl) k_L.1 rfl rfl k_L fr_none' (x_rd (fun v_17 hv_17 => ?_))
      obtain rfl := hv_17
      show X _ _ _ _ _ _ _ _ _ [zV ((L.length : Int)), zV i] _
      refine x_icmp_ge (tgt := 37) ho d_GR_find_22 (by decide) (by omega) (by omega) (fun c_22 => ?_) (fun c_22 => ?_)
      ·
        refine x_vret ho hr d_GR_find_37 ?_
        exact ⟨s, rfl, by rw [show ((L.length : Int) - 1).toNat = (i - 1).toNat by omega]; exact hs, hb, k_G, k_L⟩
      ·
        refine x_aload_n ho 1 d_GR_find_25 rfl ?_
        refine x_aload_n ho 2 d_GR_find_26 rfl ?_
        refine x_iload_n ho 0 d_GR_find_27 rfl ?_
        refine x_callV (rest := []) ho d_GR_find_28 yv_GR_findWithPeriod g_675 g_18 g_674 (c_GR_findWithPeriod M.2.1 D o s.1 s.2.1 s.2.2 b n L i (by omega) (by omega) (by omega) (by omega)) rfl rfl ⟨Nat.le_of_ble_eq_true rfl, Nat.le_of_ble_eq_true rfl⟩ ⟨Nat.le_of_ble_eq_true rfl, Nat.le_of_ble_eq_true rfl⟩ rfl rfl (Nat.le_of_ble_eq_true rfl) k_G rfl rfl ⟨k_G, k_L⟩ (rA_sub (by omega) (by omega)) (fun v_19 H_21 hv_19 f_20 => ?_)
        obtain ⟨s_22, rfl, hs_23, hb_24, hG_25, hL_26⟩ := hv_19
        show X _ _ _ _ _ _ _ _ _ [] _
        refine x_iinc (L' := [(2, zV (i + 1)), (0, .ref o), (1, .ref b)]) ho 0 d_GR_find_31 rfl rfl (by decide) rfl ?_
        refine x_goto (tgt := 17) ho d_GR_find_34 (by decide) ?_
        exact ih_17 (i + 1) (s_22.2) H_21 hG_25 hL_26 (by omega) (by rw [show (i + 1 - 1).toNat = (i - 1).toNat + 1 by omega, grO, ← hs]; rw [show (((i - 1).toNat : Nat) : Int) + 1 = i by omega]; rw [hs_23]) (by exact hb_24) (by omega)
  exact loop_17 _ 1 (1, 0, 1) H_11 p_12 k_15 (by omega) (by rfl) (by dsimp only; omega) (Nat.lt_succ_self _)
def q_LM_find (D : GG) (o : Nat) (pl : Int) (le : Int) (b : Nat) (n : Nat) (L : List Int) : Option Value → Heap → Prop := fun v0 H => ∃ (p1 : Int) (p2 : Int), v0 = none ∧ bestM L p1 p2 ∧ isM D H o p1 p2 ∧ isL D H b n L
theorem yv_LM_find : Yv y_LM_find b_LM_find 3 (Option.none : Option FieldType) 1 := ⟨g_697, g_63, by decide, by decide +kernel⟩
set_option maxHeartbeats 4000000 in
set_option maxRecDepth 100000 in
theorem c_LM_find (l0 : Launch) (D : GG) (o : Nat) (pl : Int) (le : Int) (b : Nat) (n : Nat) (L : List Int) (hd : o + 1 ≤ b ∨ b + 2 ≤ o) (hL1 : 1 ≤ (L.length : Int)) : Ct l0 D y_LM_find b_LM_find 3 (Option.none : Option FieldType) ({ frames := 2, cells := 0, slots := 0, locals := 46 } : Room) [.ref o, .ref b] (fun H => isM D H o pl le ∧ isL D H b n L) (rA o (o + 1)) 0 0 (q_LM_find D o pl le b n L) := by
  refine Ct.of (L := [(0, .ref o), (1, .ref b)]) (by decide) (Nat.le_of_ble_eq_true rfl) rfl (fun M H ho hr hnm hH hpre => ?_)
  obtain ⟨hM, hL⟩ := hpre
  have h_n := hL.b
  refine x_aload_n ho 0 d_LM_find_0 rfl ?_
  refine x_iconst ho d_LM_find_1 ?_
  refine x_put 0 ho d_LM_find_2 cl_LM (by decide) g_211 hM rfl rfl rfl (Nat.le_of_ble_eq_true rfl) (rA_in (by omega) (by omega)) (fun H_1 p_2 z_3 q_4 => ?_)
  have k_5 := hL.kept (fun q g1 g2 => q_4 q (by omega))
  refine x_aload_n ho 0 d_LM_find_5 rfl ?_
  refine x_iconst ho d_LM_find_6 ?_
  refine x_put 1 ho d_LM_find_7 cl_LM (by decide) g_212 p_2 rfl rfl rfl (Nat.le_of_ble_eq_true rfl) (rA_in (by omega) (by omega)) (fun H_6 p_7 z_8 q_9 => ?_)
  have k_10 := k_5.kept (fun q g1 g2 => q_9 q (by omega))
  refine x_iconst ho d_LM_find_10 ?_
  refine x_istore_n (L' := [(2, zV 0), (0, .ref o), (1, .ref b)]) ho d_LM_find_11 (by decide) rfl ?_
  have loop_12 : ∀ (kk : Nat) (m : Int) (p1 : Int) (p2 : Int) (H_11 : Heap) (k_M : isM D H_11 o p1 p2) (k_L : isL D H_11 b n L) (i0 : 0 ≤ m ∧ m ≤ 2 * (L.length : Int)) (hb : besM L m p1 p2) (hp : 0 ≤ p2 ∧ p2 ≤ 300), (2 * (L.length : Int) - m).toNat < kk → X M ({ frames := 2, cells := 0, slots := 0, locals := 46 } : Room) 3 (rA o (o + 1)) 0 0 (Qof M (rA o (o + 1)) (q_LM_find D o pl le b n L) 0 0) 12 [(2, zV m), (0, .ref o), (1, .ref b)] [] H_11 := by
    intro kk
    induction kk with
    | zero => intro m p1 p2 H_11 k_M k_L i0 hb hp hk; exact absurd hk (Nat.not_lt_zero _)
    | succ kk ih_12 =>
      intro m p1 p2 H_11 k_M k_L i0 hb hp hk_12
      refine x_iload_n ho 0 d_LM_find_12 rfl ?_
      refine x_iconst ho d_LM_find_13 ?_
      refine x_aload_n ho 2 d_LM_find_14 rfl ?_
      refine x_callV (rest := [zV 2, zV m]) ho d_LM_find_15 yv_LE_length g_323 g_324 g_698 (c_LE_length M.2.1 D b n L ) rfl rfl ⟨Nat.le_of_ble_eq_true rfl, Nat.le_of_ble_eq_true rfl⟩ ⟨Nat.le_of_ble_eq_true rfl, Nat.le_of_ble_eq_true rfl⟩ rfl rfl (Nat.le_of_ble_eq_true rfl) k_L.1 rfl rfl k_L fr_none' (x_rd (fun v_12 hv_12 => ?_))
      obtain rfl := hv_12
      show X _ _ _ _ _ _ _ _ _ [zV ((L.length : Int)), zV 2, zV m] _
      refine x_imul ho d_LM_find_18 ?_
      refine x_icmp_ge (tgt := 41) ho d_LM_find_19 (by decide) (by omega) (by omega) (fun c_19 => ?_) (fun c_19 => ?_)
      ·
        refine x_vret ho hr d_LM_find_41 ?_
        rw [show m = 2 * (L.length : Int) by omega] at hb
        exact ⟨p1, p2, rfl, best_of hb hL1, k_M, k_L⟩
      ·
        refine x_aload_n ho 1 d_LM_find_22 rfl ?_
        refine x_aload_n ho 2 d_LM_find_23 rfl ?_
        refine x_iload_n ho 0 d_LM_find_24 rfl ?_
        refine x_iconst ho d_LM_find_25 ?_
        refine x_idiv ho d_LM_find_26 (by omega) (by omega) ?_
        refine x_iload_n ho 0 d_LM_find_27 rfl ?_
        refine x_iconst ho d_LM_find_28 ?_
        refine x_iadd ho d_LM_find_29 ?_
        refine x_iconst ho d_LM_find_30 ?_
        refine x_idiv ho d_LM_find_31 (by omega) (by omega) ?_
        refine x_callV (rest := []) ho d_LM_find_32 yv_LM_findAround g_700 g_19 g_699 (c_LM_findAround M.2.1 D o p1 p2 b n L (m / 2) ((m + 1) / 2) (by omega) (by omega) (by omega)) rfl rfl ⟨Nat.le_of_ble_eq_true rfl, Nat.le_of_ble_eq_true rfl⟩ ⟨Nat.le_of_ble_eq_true rfl, Nat.le_of_ble_eq_true rfl⟩ rfl rfl (Nat.le_of_ble_eq_true rfl) k_M rfl rfl ⟨k_M, k_L⟩ (rA_sub (by omega) (by omega)) (fun v_14 H_16 hv_14 f_15 => ?_)
        obtain ⟨a_17, s_18, rfl, hm_19, hM_20, hL_21⟩ := hv_14
        show X _ _ _ _ _ _ _ _ _ [] _
        refine x_iinc (L' := [(2, zV (m + 1)), (0, .ref o), (1, .ref b)]) ho 0 d_LM_find_35 rfl rfl (by decide) rfl ?_
        refine x_goto (tgt := 12) ho d_LM_find_38 (by decide) ?_
        exact ih_12 (m + 1) (if p2 < s_18 then a_17 else p1) (if p2 < s_18 then s_18 else p2) H_16 hM_20 hL_21 (by omega) (by have hk := hm_19; rw [show m / 2 + (m + 1) / 2 = m by omega] at hk; exact besM_next hb hk) (by have hk := hm_19; have q1 := hk.1; have q2 := hk.2.2.1; have q3 := hk.2.2.2.1; split <;> omega) (by omega)
  exact loop_12 _ 0 0 0 H_6 p_7 k_10 (by omega) (by exact besM_0) (by omega) (Nat.lt_succ_self _)
