def q_PW_total (D : GG) (o : Nat) (t : Int → Int) (u : Int → Int) : Option Value → Heap → Prop := fun v0 H => v0 = some (zV (su t))
theorem yv_PW_total : Yv y_PW_total b_PW_total 3 (Option.some FieldType.int) 0 := ⟨g_578, g_60, by decide, by decide +kernel⟩
set_option maxHeartbeats 4000000 in
set_option maxRecDepth 100000 in
theorem c_PW_total (l0 : Launch) (D : GG) (o : Nat) (t : Int → Int) (u : Int → Int)  : Ct l0 D y_PW_total b_PW_total 3 (Option.some FieldType.int) ({ frames := 0, cells := 0, slots := 0, locals := 0 } : Room) [.ref o] (fun H => isP D H o t u) nA 0 0 (q_PW_total D o t u) := by
  refine Ct.of (L := [(0, .ref o)]) (by decide) (Nat.le_of_ble_eq_true rfl) rfl (fun M H ho hr hnm hH hpre => ?_)
  have hP := hpre
  obtain ⟨h_o, h_t, h_u⟩ := id hP
  refine x_iconst ho d_PW_total_0 ?_
  refine x_istore_n (L' := [(1, zV 0), (0, .ref o)]) ho d_PW_total_1 (by decide) rfl ?_
  refine x_iconst ho d_PW_total_2 ?_
  refine x_istore_n (L' := [(2, zV 0), (1, zV 0), (0, .ref o)]) ho d_PW_total_3 (by decide) rfl ?_
  have loop_4 : ∀ (kk : Nat) (i : Int) (z : Int) (i0 : 0 ≤ i ∧ i ≤ 4) (hz : z = suN t i.toNat), (4 - i).toNat < kk → X M ({ frames := 0, cells := 0, slots := 0, locals := 0 } : Room) 3 nA 0 0 (Qof M nA (q_PW_total D o t u) 0 0) 4 [(2, zV i), (1, zV z), (0, .ref o)] [] H := by
    intro kk
    induction kk with
    | zero => intro i z i0 hz hk; exact absurd hk (Nat.not_lt_zero _)
    | succ kk ih_4 =>
      intro i z i0 hz hk_4
      refine x_iload_n ho 0 d_PW_total_4 rfl ?_
      refine x_iconst ho d_PW_total_5 ?_
      refine x_icmp_ge (tgt := 24) ho d_PW_total_6 (by decide) (by omega) (by omega) (fun c_6 => ?_) (fun c_6 => ?_)
      ·
        refine x_iload_n ho 1 d_PW_total_24 rfl ?_
        refine x_iret ho hr d_PW_total_25 ?_
        rw [show i.toNat = 4 by omega] at hz; subst hz; rfl
      ·
        refine x_iload_n ho 1 d_PW_total_9 rfl ?_
        refine x_aload_n ho 2 d_PW_total_10 rfl ?_
        refine x_get 0 ho d_PW_total_11 cl_PW (by decide) g_171 h_o rfl ?_
        refine x_iload_n ho 0 d_PW_total_14 rfl ?_
        refine x_iald ho d_PW_total_15 h_t (by omega) (by omega) (by omega) ?_
        refine x_iadd ho d_PW_total_16 ?_
        refine x_istore_n (L' := [(1, zV (z + (t i))), (2, zV i), (0, .ref o)]) ho d_PW_total_17 (by decide) rfl ?_
        refine x_iinc (L' := [(2, zV (i + 1)), (1, zV (z + (t i))), (0, .ref o)]) ho 1 d_PW_total_18 rfl rfl (by decide) rfl ?_
        refine x_goto (tgt := 4) ho d_PW_total_21 (by decide) ?_
        exact ih_4 (i + 1) (z + (t i)) (by omega) (by rw [show (i + 1).toNat = i.toNat + 1 by omega]; unfold suN; rw [show ((i.toNat : Nat) : Int) = i by omega, ← hz]) (by omega)
  exact loop_4 _ 0 0 (by omega) (by rfl) (Nat.lt_succ_self _)
def q_PW_countOf (D : GG) (o : Nat) (t : Int → Int) (u : Int → Int) (x : Int) : Option Value → Heap → Prop := fun v0 H => v0 = some (zV (t x))
theorem yv_PW_countOf : Yv y_PW_countOf b_PW_countOf 2 (Option.some FieldType.int) 1 := ⟨g_594, g_60, by decide, by decide +kernel⟩
set_option maxHeartbeats 4000000 in
set_option maxRecDepth 100000 in
theorem c_PW_countOf (l0 : Launch) (D : GG) (o : Nat) (t : Int → Int) (u : Int → Int) (x : Int) (hx : 0 ≤ x ∧ x < 4) : Ct l0 D y_PW_countOf b_PW_countOf 2 (Option.some FieldType.int) ({ frames := 1, cells := 0, slots := 0, locals := 20 } : Room) [.ref o, zV x] (fun H => isP D H o t u) nA 0 0 (q_PW_countOf D o t u x) := by
  refine Ct.of (L := [(0, .ref o), (1, zV x)]) (by decide) (Nat.le_of_ble_eq_true rfl) rfl (fun M H ho hr hnm hH hpre => ?_)
  have hP := hpre
  obtain ⟨h_o, h_t, h_u⟩ := id hP
  refine x_iload_n ho 1 d_PW_countOf_0 rfl ?_
  refine x_callSN (host := "MorphWords") (rest := []) ho d_PW_countOf_1 yv_MW_isLetter g_109 (List.mem_of_getElem? (i := 10) rfl) (c_MW_isLetter M.2.1 D x (by omega)) rfl rfl ⟨Nat.le_of_ble_eq_true rfl, Nat.le_of_ble_eq_true rfl⟩ ⟨Nat.le_of_ble_eq_true rfl, Nat.le_of_ble_eq_true rfl⟩ rfl rfl (Nat.le_of_ble_eq_true rfl) trivial fr_none' (x_rd (fun v_1 hv_1 => ?_))
  obtain rfl := hv_1
  show X _ _ _ _ _ _ _ _ _ [zV (bI (0 ≤ x ∧ x < 4))] _
  refine x_if_eqB (tgt := 16) ho d_PW_countOf_4 (by decide) (fun c_4 => ?_) (fun c_4 => ?_)
  ·
    exact absurd hx c_4
  ·
    refine x_aload_n ho 0 d_PW_countOf_7 rfl ?_
    refine x_get 0 ho d_PW_countOf_8 cl_PW (by decide) g_171 h_o rfl ?_
    refine x_iload_n ho 1 d_PW_countOf_11 rfl ?_
    refine x_iald ho d_PW_countOf_12 h_t (by omega) (by omega) (by omega) ?_
    refine x_goto (tgt := 17) ho d_PW_countOf_13 (by decide) ?_
    refine x_iret ho hr d_PW_countOf_17 ?_
    exact rfl
def q_PW_goOn (D : GG) (o : Nat) (t : Int → Int) (u : Int → Int) (r : Nat) (p : Int → Nat) (c : Int → List Int) : Option Value → Heap → Prop := fun v0 H => ∃ (t2 : Int → Int) (u2 : Int → Int), v0 = none ∧ (∀ x : Int, 0 ≤ x → x < 4 → t2 x = psN c t x 4) ∧ isP D H o t2 u2 ∧ isR D H r p c
theorem yv_PW_goOn : Yv y_PW_goOn b_PW_goOn 4 (Option.none : Option FieldType) 1 := ⟨g_582, g_60, by decide, by decide +kernel⟩
set_option maxHeartbeats 4000000 in
set_option maxRecDepth 100000 in
theorem c_PW_goOn (l0 : Launch) (D : GG) (o : Nat) (t : Int → Int) (u : Int → Int) (r : Nat) (p : Int → Nat) (c : Int → List Int) (hd : r + 12 ≤ o ∨ o + 3 ≤ r) : Ct l0 D y_PW_goOn b_PW_goOn 4 (Option.none : Option FieldType) ({ frames := 2, cells := 0, slots := 0, locals := 60 } : Room) [.ref o, .ref r] (fun H => isP D H o t u ∧ isR D H r p c) (rA o (o + 3)) 0 0 (q_PW_goOn D o t u r p c) := by
  refine Ct.of (L := [(0, .ref o), (1, .ref r)]) (by decide) (Nat.le_of_ble_eq_true rfl) rfl (fun M H ho hr hnm hH hpre => ?_)
  obtain ⟨hP, hR⟩ := hpre
  obtain ⟨h_o, h_t, h_u⟩ := id hP
  refine x_iconst ho d_PW_goOn_0 ?_
  refine x_istore_n (L' := [(2, zV 0), (0, .ref o), (1, .ref r)]) ho d_PW_goOn_1 (by decide) rfl ?_
  have loop_2 : ∀ (kk : Nat) (i : Int) (w : Int → Int) (H_1 : Heap) (k_o : At D H_1 o (oO 5 [.ref (o + 1), .ref (o + 2)])) (k_t : At D H_1 (o + 1) (oI D 4 t)) (k_u : At D H_1 (o + 2) (oI D 4 w)) (k_R : isR D H_1 r p c) (i0 : 0 ≤ i ∧ i ≤ 4) (hw : ∀ x : Int, 0 ≤ x → x < i → w x = psN c t x 4), (4 - i).toNat < kk → X M ({ frames := 2, cells := 0, slots := 0, locals := 60 } : Room) 4 (rA o (o + 3)) 0 0 (Qof M (rA o (o + 3)) (q_PW_goOn D o t u r p c) 0 0) 2 [(2, zV i), (0, .ref o), (1, .ref r)] [] H_1 := by
    intro kk
    induction kk with
    | zero => intro i w H_1 k_o k_t k_u k_R i0 hw hk; exact absurd hk (Nat.not_lt_zero _)
    | succ kk ih_2 =>
      intro i w H_1 k_o k_t k_u k_R i0 hw hk_2
      refine x_iload_n ho 0 d_PW_goOn_2 rfl ?_
      refine x_iconst ho d_PW_goOn_3 ?_
      refine x_icmp_ge (tgt := 58) ho d_PW_goOn_4 (by decide) (by omega) (by omega) (fun c_4 => ?_) (fun c_4 => ?_)
      ·
        refine x_aload_n ho 1 d_PW_goOn_58 rfl ?_
        refine x_get 1 ho d_PW_goOn_59 cl_PW (by decide) g_172 k_o rfl ?_
        refine x_iconst ho d_PW_goOn_62 ?_
        refine x_aload_n ho 1 d_PW_goOn_63 rfl ?_
        refine x_get 0 ho d_PW_goOn_64 cl_PW (by decide) g_171 k_o rfl ?_
        refine x_iconst ho d_PW_goOn_67 ?_
        refine x_iconst ho d_PW_goOn_68 ?_
        refine x_copy ho d_PW_goOn_69 g_585 k_u k_t (by omega) (by omega) (by omega) (by omega) (by omega) (by omega) (by omega) (Nat.le_of_ble_eq_true rfl) (Nat.le_of_ble_eq_true rfl) (rA_in (by omega) (by omega)) (fun H_2 p_3 z_4 q_5 => ?_)
        have k_6 := k_o.kept (q_5 _ (by omega))
        have k_7 := k_u.kept (q_5 _ (by omega))
        have k_8 := k_R.kept (fun q g1 g2 => q_5 q (by omega))
        refine x_vret ho hr d_PW_goOn_72 ?_
        exact ⟨_, _, rfl, fun x h0 h1 => by rw [zC_in _ _ (by omega) (by omega), show (0 : Int) + (x - 0) = x by omega]; exact hw x h0 (by omega), ⟨k_6, p_3, k_7⟩, k_8⟩
      ·
        refine x_aload_n ho 1 d_PW_goOn_7 rfl ?_
        refine x_get 1 ho d_PW_goOn_8 cl_PW (by decide) g_172 k_o rfl ?_
        refine x_iload_n ho 0 d_PW_goOn_11 rfl ?_
        refine x_iconst ho d_PW_goOn_12 ?_
        refine x_iast ho d_PW_goOn_13 k_u (by omega) (by omega) (by omega) (rA_in (by omega) (by omega)) (fun H_9 p_10 z_11 q_12 => ?_)
        have k_13 := k_o.kept (q_12 _ (by omega))
        have k_14 := k_t.kept (q_12 _ (by omega))
        have k_15 := k_R.kept (fun q g1 g2 => q_12 q (by omega))
        refine x_iconst ho d_PW_goOn_14 ?_
        refine x_istore_n (L' := [(3, zV 0), (2, zV i), (0, .ref o), (1, .ref r)]) ho d_PW_goOn_15 (by decide) rfl ?_
        have loop_16 : ∀ (kk : Nat) (j : Int) (y : Int → Int) (H_16 : Heap) (m_o : At D H_16 o (oO 5 [.ref (o + 1), .ref (o + 2)])) (m_t : At D H_16 (o + 1) (oI D 4 t)) (m_u : At D H_16 (o + 2) (oI D 4 y)) (m_R : isR D H_16 r p c) (j0 : 0 ≤ j ∧ j ≤ 4) (hy : ∀ x : Int, 0 ≤ x → x < i → y x = psN c t x 4) (hj : y i = psN c t i j.toNat), (4 - j).toNat < kk → X M ({ frames := 2, cells := 0, slots := 0, locals := 60 } : Room) 4 (rA o (o + 3)) 0 0 (Qof M (rA o (o + 3)) (q_PW_goOn D o t u r p c) 0 0) 16 [(3, zV j), (2, zV i), (0, .ref o), (1, .ref r)] [] H_16 := by
          intro kk
          induction kk with
          | zero => intro j y H_16 m_o m_t m_u m_R j0 hy hj hk; exact absurd hk (Nat.not_lt_zero _)
          | succ kk ih_16 =>
            intro j y H_16 m_o m_t m_u m_R j0 hy hj hk_16
            refine x_iload_n ho 0 d_PW_goOn_16 rfl ?_
            refine x_iconst ho d_PW_goOn_17 ?_
            refine x_icmp_ge (tgt := 52) ho d_PW_goOn_18 (by decide) (by omega) (by omega) (fun c_18 => ?_) (fun c_18 => ?_)
            ·
              refine x_iinc (L' := [(2, zV (i + 1)), (3, zV j), (0, .ref o), (1, .ref r)]) ho 1 d_PW_goOn_52 rfl rfl (by decide) rfl ?_
              refine x_goto (tgt := 2) ho d_PW_goOn_55 (by decide) ?_
              refine x_sub (L' := [(2, zV (i + 1)), (0, .ref o), (1, .ref r)]) [0, 2, 3] rfl ?_
              exact ih_2 (i + 1) y H_16 m_o m_t m_u m_R (by omega) (by
                  intro x h0 h1
                  rcases (show x < i ∨ x = i by omega) with h | h
                  · exact hy x h0 h
                  · subst h; rw [show j.toNat = 4 by omega] at hj; exact hj) (by omega)
            ·
              refine x_aload_n ho 2 d_PW_goOn_21 rfl ?_
              refine x_get 1 ho d_PW_goOn_22 cl_PW (by decide) g_172 m_o rfl ?_
              refine x_iload_n ho 1 d_PW_goOn_25 rfl ?_
              refine x_dup2 ho d_PW_goOn_26 rfl rfl ?_
              refine x_iald ho d_PW_goOn_27 m_u (by omega) (by omega) (by omega) ?_
              refine x_aload_n ho 2 d_PW_goOn_28 rfl ?_
              refine x_get 0 ho d_PW_goOn_29 cl_PW (by decide) g_171 m_o rfl ?_
              refine x_iload_n ho 0 d_PW_goOn_32 rfl ?_
              refine x_iald ho d_PW_goOn_33 m_t (by omega) (by omega) (by omega) ?_
              refine x_aload_n ho 3 d_PW_goOn_34 rfl ?_
              refine x_iload_n ho 0 d_PW_goOn_35 rfl ?_
              refine x_callV (rest := [zV (t j), zV (y i), zV i, .ref (o + 2)]) ho d_PW_goOn_36 yv_RU_imageOf g_294 g_295 g_583 (c_RU_imageOf M.2.1 D r p c j (by omega)) rfl rfl ⟨Nat.le_of_ble_eq_true rfl, Nat.le_of_ble_eq_true rfl⟩ ⟨Nat.le_of_ble_eq_true rfl, Nat.le_of_ble_eq_true rfl⟩ rfl rfl (Nat.le_of_ble_eq_true rfl) m_R.1 rfl rfl m_R fr_none' (x_rd (fun v_17 hv_17 => ?_))
              obtain ⟨rfl, hb_19, hI_20⟩ := hv_17
              show X _ _ _ _ _ _ _ _ _ [.ref (p j), zV (t j), zV (y i), zV i, .ref (o + 2)] _
              refine x_iload_n ho 1 d_PW_goOn_39 rfl ?_
              refine x_callV (rest := [zV (t j), zV (y i), zV i, .ref (o + 2)]) ho d_PW_goOn_40 yv_LE_countOf g_412 g_413 g_584 (c_LE_countOf M.2.1 D (p j) 8 (c j) i (by omega)) rfl rfl ⟨Nat.le_of_ble_eq_true rfl, Nat.le_of_ble_eq_true rfl⟩ ⟨Nat.le_of_ble_eq_true rfl, Nat.le_of_ble_eq_true rfl⟩ rfl rfl (Nat.le_of_ble_eq_true rfl) hI_20.1 rfl rfl hI_20 fr_none' (x_rd (fun v_21 hv_21 => ?_))
              obtain ⟨rfl, hr_23⟩ := hv_21
              show X _ _ _ _ _ _ _ _ _ [zV (cn (c j) i), zV (t j), zV (y i), zV i, .ref (o + 2)] _
              refine x_imul ho d_PW_goOn_43 ?_
              refine x_iadd ho d_PW_goOn_44 ?_
              refine x_iast ho d_PW_goOn_45 m_u (by omega) (by omega) (by omega) (rA_in (by omega) (by omega)) (fun H_24 p_25 z_26 q_27 => ?_)
              have k_28 := m_o.kept (q_27 _ (by omega))
              have k_29 := m_t.kept (q_27 _ (by omega))
              have k_30 := m_R.kept (fun q g1 g2 => q_27 q (by omega))
              have k_31 := hI_20.kept (fun q g1 g2 => q_27 q (by omega))
              refine x_iinc (L' := [(3, zV (j + 1)), (2, zV i), (0, .ref o), (1, .ref r)]) ho 0 d_PW_goOn_46 rfl rfl (by decide) rfl ?_
              refine x_goto (tgt := 16) ho d_PW_goOn_49 (by decide) ?_
              exact ih_16 (j + 1) (zU y i (y i + (t j) * (cn (c j) i))) H_24 k_28 k_29 p_25 k_30 (by omega) (by intro x h0 h1; rw [zU_n _ _ (by omega)]; exact hy x h0 h1) (by rw [zU_s, show (j + 1).toNat = j.toNat + 1 by omega]; unfold psN; rw [show ((j.toNat : Nat) : Int) = j by omega, ← hj]) (by omega)
        exact loop_16 _ 0 (zU w i 0) H_9 k_13 k_14 p_10 k_15 (by omega) (by intro x h0 h1; rw [zU_n _ _ (by omega)]; exact hw x h0 h1) (by rw [zU_s]; rfl) (Nat.lt_succ_self _)
  exact loop_2 _ 0 u H h_o h_t h_u hR (by omega) (by intro x h0 h1; omega) (Nat.lt_succ_self _)
def q_PW_find (D : GG) (o : Nat) (t : Int → Int) (u : Int → Int) (r : Nat) (p : Int → Nat) (c : Int → List Int) (x : Int) (n : Int) : Option Value → Heap → Prop := fun v0 H => (∃ (t2 : Int → Int) (u2 : Int → Int), v0 = some (zV 1) ∧ su (tN c x n.toNat) ≤ 1000000 ∧ (∀ j : Int, 0 ≤ j → j < 4 → t2 j = tN c x n.toNat j) ∧ isP D H o t2 u2 ∧ isR D H r p c) ∨ (∃ (t2 : Int → Int) (u2 : Int → Int), v0 = some (zV 0) ∧ ¬ su (tN c x n.toNat) ≤ 1000000 ∧ isP D H o t2 u2 ∧ isR D H r p c)
theorem yv_PW_find : Yv y_PW_find b_PW_find 5 (Option.some FieldType.boolean) 3 := ⟨g_574, g_60, by decide, by decide +kernel⟩
set_option maxHeartbeats 4000000 in
set_option maxRecDepth 100000 in
theorem c_PW_find (l0 : Launch) (D : GG) (o : Nat) (t : Int → Int) (u : Int → Int) (r : Nat) (p : Int → Nat) (c : Int → List Int) (x : Int) (n : Int) (hd : r + 12 ≤ o ∨ o + 3 ≤ r) (hx : 0 ≤ x ∧ x < 4) (hn : 0 ≤ n ∧ n ≤ 30) (hc : ∀ i : Int, 0 ≤ i → i < 4 → 1 ≤ ((c i).length : Int)) : Ct l0 D y_PW_find b_PW_find 5 (Option.some FieldType.boolean) ({ frames := 3, cells := 0, slots := 0, locals := 83 } : Room) [.ref o, .ref r, zV x, zV n] (fun H => isP D H o t u ∧ isR D H r p c) (rA o (o + 3)) 0 0 (q_PW_find D o t u r p c x n) := by
  refine Ct.of (L := [(0, .ref o), (1, .ref r), (2, zV x), (3, zV n)]) (by decide) (Nat.le_of_ble_eq_true rfl) rfl (fun M H ho hr hnm hH hpre => ?_)
  obtain ⟨hP, hR⟩ := hpre
  have hcc : ∀ i : Int, 0 ≤ i → i < 4 → wf (c i) ∧ 1 ≤ ((c i).length : Int) ∧ ((c i).length : Int) ≤ 8 := fun i a b => ⟨(hR.w a b).1, hc i a b, by have := (hR.w a b).2; omega⟩
  obtain ⟨h_o, h_t, h_u⟩ := id hP
  refine x_iconst ho d_PW_find_0 ?_
  refine x_istore (L' := [(4, zV 0), (0, .ref o), (1, .ref r), (2, zV x), (3, zV n)]) ho d_PW_find_1 (by decide) rfl ?_
  have loop_3 : ∀ (kk : Nat) (i : Int) (w : Int → Int) (H_1 : Heap) (k_o : At D H_1 o (oO 5 [.ref (o + 1), .ref (o + 2)])) (k_t : At D H_1 (o + 1) (oI D 4 w)) (k_u : At D H_1 (o + 2) (oI D 4 u)) (k_R : isR D H_1 r p c) (i0 : 0 ≤ i ∧ i ≤ 4) (hw : ∀ j : Int, 0 ≤ j → j < i → w j = if j = x then 1 else 0), (4 - i).toNat < kk → X M ({ frames := 3, cells := 0, slots := 0, locals := 83 } : Room) 5 (rA o (o + 3)) 0 0 (Qof M (rA o (o + 3)) (q_PW_find D o t u r p c x n) 0 0) 3 [(4, zV i), (0, .ref o), (1, .ref r), (2, zV x), (3, zV n)] [] H_1 := by
    intro kk
    induction kk with
    | zero => intro i w H_1 k_o k_t k_u k_R i0 hw hk; exact absurd hk (Nat.not_lt_zero _)
    | succ kk ih_3 =>
      intro i w H_1 k_o k_t k_u k_R i0 hw hk_3
      refine x_iload ho 0 d_PW_find_3 rfl ?_
      refine x_iconst ho d_PW_find_5 ?_
      refine x_icmp_ge (tgt := 33) ho d_PW_find_6 (by decide) (by omega) (by omega) (fun c_6 => ?_) (fun c_6 => ?_)
      ·
        refine x_iconst ho d_PW_find_33 ?_
        refine x_istore (L' := [(4, zV 0), (0, .ref o), (1, .ref r), (2, zV x), (3, zV n)]) ho d_PW_find_34 (by decide) rfl ?_
        have loop_36 : ∀ (kk : Nat) (i : Int) (y : Int → Int) (u3 : Int → Int) (H_2 : Heap) (m_P : isP D H_2 o y u3) (m_R : isR D H_2 r p c) (i1 : 0 ≤ i ∧ i ≤ n) (hy : ∀ j : Int, 0 ≤ j → j < 4 → y j = tN c x i.toNat j) (hb : su (tN c x i.toNat) ≤ 8000000), (n - i).toNat < kk → X M ({ frames := 3, cells := 0, slots := 0, locals := 83 } : Room) 5 (rA o (o + 3)) 0 0 (Qof M (rA o (o + 3)) (q_PW_find D o t u r p c x n) 0 0) 36 [(4, zV i), (0, .ref o), (1, .ref r), (2, zV x), (3, zV n)] [] H_2 := by
          intro kk
          induction kk with
          | zero => intro i y u3 H_2 m_P m_R i1 hy hb hk; exact absurd hk (Nat.not_lt_zero _)
          | succ kk ih_36 =>
            intro i y u3 H_2 m_P m_R i1 hy hb hk_36
            refine x_iload ho 0 d_PW_find_36 rfl ?_
            refine x_iload_n ho 4 d_PW_find_38 rfl ?_
            refine x_icmp_ge (tgt := 62) ho d_PW_find_39 (by decide) (by omega) (by omega) (fun c_39 => ?_) (fun c_39 => ?_)
            ·
              refine x_aload_n ho 1 d_PW_find_62 rfl ?_
              refine x_callV (rest := []) ho d_PW_find_63 yv_PW_total g_576 g_577 g_575 (c_PW_total M.2.1 D o y u3 ) rfl rfl ⟨Nat.le_of_ble_eq_true rfl, Nat.le_of_ble_eq_true rfl⟩ ⟨Nat.le_of_ble_eq_true rfl, Nat.le_of_ble_eq_true rfl⟩ rfl rfl (Nat.le_of_ble_eq_true rfl) m_P.1 rfl rfl m_P fr_none' (x_rd (fun v_3 hv_3 => ?_))
              obtain rfl := hv_3
              show X _ _ _ _ _ _ _ _ _ [zV (su y)] _
              refine x_ldc (z := 1000000) ho d_PW_find_66 g_579 (by decide) ?_
              have hsu : su y = su (tN c x i.toNat) := su_c hy
              have hs0 := (su_mono hcc x i.toNat).2.2
              refine x_icmp_gt (tgt := 75) ho d_PW_find_68 (by decide) (by omega) (by omega) (fun c_68 => ?_) (fun c_68 => ?_)
              ·
                refine x_iconst ho d_PW_find_75 ?_
                refine x_zret ho hr (Or.inl rfl) d_PW_find_76 ?_
                have hm := su_mono hcc x (n := i.toNat)
                rw [show i.toNat = n.toNat by omega] at hsu
                exact Or.inr ⟨_, _, rfl, by omega, m_P, m_R⟩
              ·
                refine x_iconst ho d_PW_find_71 ?_
                refine x_goto (tgt := 76) ho d_PW_find_72 (by decide) ?_
                refine x_zret ho hr (Or.inr rfl) d_PW_find_76 ?_
                rw [show i.toNat = n.toNat by omega] at hsu hy
                exact Or.inl ⟨_, _, rfl, by omega, hy, m_P, m_R⟩
            ·
              refine x_aload_n ho 1 d_PW_find_42 rfl ?_
              refine x_callV (rest := []) ho d_PW_find_43 yv_PW_total g_576 g_577 g_575 (c_PW_total M.2.1 D o y u3 ) rfl rfl ⟨Nat.le_of_ble_eq_true rfl, Nat.le_of_ble_eq_true rfl⟩ ⟨Nat.le_of_ble_eq_true rfl, Nat.le_of_ble_eq_true rfl⟩ rfl rfl (Nat.le_of_ble_eq_true rfl) m_P.1 rfl rfl m_P fr_none' (x_rd (fun v_5 hv_5 => ?_))
              obtain rfl := hv_5
              show X _ _ _ _ _ _ _ _ _ [zV (su y)] _
              refine x_ldc (z := 1000000) ho d_PW_find_46 g_579 (by decide) ?_
              have hsu : su y = su (tN c x i.toNat) := su_c hy
              have hs0 := (su_mono hcc x i.toNat).2.2
              refine x_icmp_gt (tgt := 62) ho d_PW_find_48 (by decide) (by omega) (by omega) (fun c_48 => ?_) (fun c_48 => ?_)
              ·
                refine x_aload_n ho 1 d_PW_find_62 rfl ?_
                refine x_callV (rest := []) ho d_PW_find_63 yv_PW_total g_576 g_577 g_575 (c_PW_total M.2.1 D o y u3 ) rfl rfl ⟨Nat.le_of_ble_eq_true rfl, Nat.le_of_ble_eq_true rfl⟩ ⟨Nat.le_of_ble_eq_true rfl, Nat.le_of_ble_eq_true rfl⟩ rfl rfl (Nat.le_of_ble_eq_true rfl) m_P.1 rfl rfl m_P fr_none' (x_rd (fun v_7 hv_7 => ?_))
                obtain rfl := hv_7
                show X _ _ _ _ _ _ _ _ _ [zV (su y)] _
                refine x_ldc (z := 1000000) ho d_PW_find_66 g_579 (by decide) ?_
                have hsu : su y = su (tN c x i.toNat) := su_c hy
                have hs0 := (su_mono hcc x i.toNat).2.2
                refine x_icmp_gt (tgt := 75) ho d_PW_find_68 (by decide) (by omega) (by omega) (fun c_68 => ?_) (fun c_68 => ?_)
                ·
                  refine x_iconst ho d_PW_find_75 ?_
                  refine x_zret ho hr (Or.inl rfl) d_PW_find_76 ?_
                  have hm := su_mono' hcc x (n := i.toNat) (m := n.toNat) (by omega)
                  exact Or.inr ⟨_, _, rfl, by omega, m_P, m_R⟩
                ·
                  refine x_iconst ho d_PW_find_71 ?_
                  refine x_goto (tgt := 76) ho d_PW_find_72 (by decide) ?_
                  refine x_zret ho hr (Or.inr rfl) d_PW_find_76 ?_
                  exact absurd c_68 (by omega)
              ·
                refine x_aload_n ho 1 d_PW_find_51 rfl ?_
                refine x_aload_n ho 2 d_PW_find_52 rfl ?_
                refine x_callV (rest := []) ho d_PW_find_53 yv_PW_goOn g_581 g_10 g_580 (c_PW_goOn M.2.1 D o y u3 r p c (by omega)) rfl rfl ⟨Nat.le_of_ble_eq_true rfl, Nat.le_of_ble_eq_true rfl⟩ ⟨Nat.le_of_ble_eq_true rfl, Nat.le_of_ble_eq_true rfl⟩ rfl rfl (Nat.le_of_ble_eq_true rfl) m_P.1 rfl rfl ⟨m_P, m_R⟩ (rA_sub (by omega) (by omega)) (fun v_9 H_11 hv_9 f_10 => ?_)
                obtain ⟨t2_12, u2_13, rfl, ht2_14, hP_15, hR_16⟩ := hv_9
                show X _ _ _ _ _ _ _ _ _ [] _
                refine x_iinc (L' := [(4, zV (i + 1)), (0, .ref o), (1, .ref r), (2, zV x), (3, zV n)]) ho 0 d_PW_find_56 rfl rfl (by decide) rfl ?_
                refine x_goto (tgt := 36) ho d_PW_find_59 (by decide) ?_
                exact ih_36 (i + 1) (t2_12) (u2_13) H_11 hP_15 hR_16 (by omega) (by intro j h0 h1; rw [show (i + 1).toNat = i.toNat + 1 by omega, ht2_14 j h0 h1]; exact psN_c hy j 4 (by omega)) (by rw [show (i + 1).toNat = i.toNat + 1 by omega]; have := (su_mono hcc x i.toNat).2.1; omega) (by omega)
        exact loop_36 _ 0 w u H_1 ⟨k_o, k_t, k_u⟩ k_R (by omega) (by intro j h0 h1; rw [hw j h0 (by omega)]; rfl) (by have := su_e (tN c x 0); have e0 : tN c x 0 = fun j => if j = x then 1 else 0 := rfl; show su (tN c x 0) ≤ 8000000; rw [this, e0]; dsimp only; split <;> split <;> split <;> split <;> omega) (Nat.lt_succ_self _)
      ·
        refine x_aload_n ho 1 d_PW_find_9 rfl ?_
        refine x_get 0 ho d_PW_find_10 cl_PW (by decide) g_171 k_o rfl ?_
        refine x_iload ho 0 d_PW_find_13 rfl ?_
        refine x_iload ho 0 d_PW_find_15 rfl ?_
        refine x_iload_n ho 3 d_PW_find_17 rfl ?_
        refine x_icmp_ne (tgt := 25) ho d_PW_find_18 (by decide) (by omega) (by omega) (fun c_18 => ?_) (fun c_18 => ?_)
        ·
          refine x_iconst ho d_PW_find_25 ?_
          refine x_iast ho d_PW_find_26 k_t (by omega) (by omega) (by omega) (rA_in (by omega) (by omega)) (fun H_17 p_18 z_19 q_20 => ?_)
          have k_21 := k_o.kept (q_20 _ (by omega))
          have k_22 := k_u.kept (q_20 _ (by omega))
          have k_23 := k_R.kept (fun q g1 g2 => q_20 q (by omega))
          refine x_iinc (L' := [(4, zV (i + 1)), (0, .ref o), (1, .ref r), (2, zV x), (3, zV n)]) ho 0 d_PW_find_27 rfl rfl (by decide) rfl ?_
          refine x_goto (tgt := 3) ho d_PW_find_30 (by decide) ?_
          exact ih_3 (i + 1) (zU w i 0) H_17 k_21 p_18 k_22 k_23 (by omega) (by
              intro j h0 h1
              by_cases h : j = i
              · subst h; rw [zU_s, if_neg c_18]
              · rw [zU_n _ _ h]; exact hw j h0 (by omega)) (by omega)
        ·
          refine x_iconst ho d_PW_find_21 ?_
          refine x_goto (tgt := 26) ho d_PW_find_22 (by decide) ?_
          refine x_iast ho d_PW_find_26 k_t (by omega) (by omega) (by omega) (rA_in (by omega) (by omega)) (fun H_24 p_25 z_26 q_27 => ?_)
          have k_28 := k_o.kept (q_27 _ (by omega))
          have k_29 := k_u.kept (q_27 _ (by omega))
          have k_30 := k_R.kept (fun q g1 g2 => q_27 q (by omega))
          refine x_iinc (L' := [(4, zV (i + 1)), (0, .ref o), (1, .ref r), (2, zV x), (3, zV n)]) ho 0 d_PW_find_27 rfl rfl (by decide) rfl ?_
          refine x_goto (tgt := 3) ho d_PW_find_30 (by decide) ?_
          exact ih_3 (i + 1) (zU w i 1) H_24 k_28 p_25 k_29 k_30 (by omega) (by
              intro j h0 h1
              by_cases h : j = i
              · subst h; rw [zU_s, if_pos c_18]
              · rw [zU_n _ _ h]; exact hw j h0 (by omega)) (by omega)
  exact loop_3 _ 0 t H h_o h_t h_u hR (by omega) (by intro x h0 h1; omega) (Nat.lt_succ_self _)
def q_GR_period (D : GG) (o : Nat) (pe : Int) (pl : Int) (le : Int) : Option Value → Heap → Prop := fun v0 H => v0 = some (zV pe)
theorem yv_GR_period : Yv y_GR_period b_GR_period 1 (Option.some FieldType.int) 0 := ⟨g_681, g_62, by decide, by decide +kernel⟩
set_option maxHeartbeats 4000000 in
set_option maxRecDepth 100000 in
theorem c_GR_period (l0 : Launch) (D : GG) (o : Nat) (pe : Int) (pl : Int) (le : Int)  : Ct l0 D y_GR_period b_GR_period 1 (Option.some FieldType.int) ({ frames := 0, cells := 0, slots := 0, locals := 0 } : Room) [.ref o] (fun H => isG D H o pe pl le) nA 0 0 (q_GR_period D o pe pl le) := by
  refine Ct.of (L := [(0, .ref o)]) (by decide) (Nat.le_of_ble_eq_true rfl) rfl (fun M H ho hr hnm hH hpre => ?_)
  have hG := hpre
  refine x_aload_n ho 0 d_GR_period_0 rfl ?_
  refine x_get 0 ho d_GR_period_1 cl_GR (by decide) g_196 hG rfl ?_
  refine x_iret ho hr d_GR_period_4 ?_
  exact rfl
def q_GR_place (D : GG) (o : Nat) (pe : Int) (pl : Int) (le : Int) : Option Value → Heap → Prop := fun v0 H => v0 = some (zV pl)
theorem yv_GR_place : Yv y_GR_place b_GR_place 1 (Option.some FieldType.int) 0 := ⟨g_689, g_62, by decide, by decide +kernel⟩
set_option maxHeartbeats 4000000 in
set_option maxRecDepth 100000 in
theorem c_GR_place (l0 : Launch) (D : GG) (o : Nat) (pe : Int) (pl : Int) (le : Int)  : Ct l0 D y_GR_place b_GR_place 1 (Option.some FieldType.int) ({ frames := 0, cells := 0, slots := 0, locals := 0 } : Room) [.ref o] (fun H => isG D H o pe pl le) nA 0 0 (q_GR_place D o pe pl le) := by
  refine Ct.of (L := [(0, .ref o)]) (by decide) (Nat.le_of_ble_eq_true rfl) rfl (fun M H ho hr hnm hH hpre => ?_)
  have hG := hpre
  refine x_aload_n ho 0 d_GR_place_0 rfl ?_
  refine x_get 1 ho d_GR_place_1 cl_GR (by decide) g_197 hG rfl ?_
  refine x_iret ho hr d_GR_place_4 ?_
  exact rfl
def q_GR_length (D : GG) (o : Nat) (pe : Int) (pl : Int) (le : Int) : Option Value → Heap → Prop := fun v0 H => v0 = some (zV le)
theorem yv_GR_length : Yv y_GR_length b_GR_length 1 (Option.some FieldType.int) 0 := ⟨g_685, g_62, by decide, by decide +kernel⟩
set_option maxHeartbeats 4000000 in
set_option maxRecDepth 100000 in
theorem c_GR_length (l0 : Launch) (D : GG) (o : Nat) (pe : Int) (pl : Int) (le : Int)  : Ct l0 D y_GR_length b_GR_length 1 (Option.some FieldType.int) ({ frames := 0, cells := 0, slots := 0, locals := 0 } : Room) [.ref o] (fun H => isG D H o pe pl le) nA 0 0 (q_GR_length D o pe pl le) := by
  refine Ct.of (L := [(0, .ref o)]) (by decide) (Nat.le_of_ble_eq_true rfl) rfl (fun M H ho hr hnm hH hpre => ?_)
  have hG := hpre
  refine x_aload_n ho 0 d_GR_length_0 rfl ?_
  refine x_get 2 ho d_GR_length_1 cl_GR (by decide) g_198 hG rfl ?_
  refine x_iret ho hr d_GR_length_4 ?_
  exact rfl
def q_GR_findWithPeriod (D : GG) (o : Nat) (pe : Int) (pl : Int) (le : Int) (b : Nat) (n : Nat) (L : List Int) (t : Int) : Option Value → Heap → Prop := fun v0 H => ∃ (s : GV), v0 = none ∧ s = grI L t (0, pe, pl, le) ((L.length : Int) - t).toNat ∧ (1 ≤ s.2.1 ∧ s.2.1 ≤ 300 ∧ 0 ≤ s.2.2.2 ∧ s.2.2.2 ≤ 300) ∧ isG D H o s.2.1 s.2.2.1 s.2.2.2 ∧ isL D H b n L
theorem yv_GR_findWithPeriod : Yv y_GR_findWithPeriod b_GR_findWithPeriod 6 (Option.none : Option FieldType) 2 := ⟨g_676, g_62, by decide, by decide +kernel⟩
set_option maxHeartbeats 4000000 in
set_option maxRecDepth 100000 in
theorem c_GR_findWithPeriod (l0 : Launch) (D : GG) (o : Nat) (pe : Int) (pl : Int) (le : Int) (b : Nat) (n : Nat) (L : List Int) (t : Int) (hd : o + 1 ≤ b ∨ b + 2 ≤ o) (ht : 1 ≤ t ∧ t < (L.length : Int)) (hpe : 1 ≤ pe ∧ pe ≤ 300) (hle : 0 ≤ le ∧ le ≤ 300) : Ct l0 D y_GR_findWithPeriod b_GR_findWithPeriod 6 (Option.none : Option FieldType) ({ frames := 1, cells := 0, slots := 0, locals := 21 } : Room) [.ref o, .ref b, zV t] (fun H => isG D H o pe pl le ∧ isL D H b n L) (rA o (o + 1)) 0 0 (q_GR_findWithPeriod D o pe pl le b n L t) := by
  refine Ct.of (L := [(0, .ref o), (1, .ref b), (2, zV t)]) (by decide) (Nat.le_of_ble_eq_true rfl) rfl (fun M H ho hr hnm hH hpre => ?_)
  obtain ⟨hG, hL⟩ := hpre
  have h_n := hL.b
  have h_w := hL.w
  refine x_iconst ho d_GR_findWithPeriod_0 ?_
  refine x_istore_n (L' := [(3, zV 0), (0, .ref o), (1, .ref b), (2, zV t)]) ho d_GR_findWithPeriod_1 (by decide) rfl ?_
  refine x_iload_n ho 3 d_GR_findWithPeriod_2 rfl ?_
  refine x_istore (L' := [(4, zV t), (3, zV 0), (0, .ref o), (1, .ref b), (2, zV t)]) ho d_GR_findWithPeriod_3 (by decide) rfl ?_
  have loop_5 : ∀ (kk : Nat) (la : Int) (sa : Int) (p1 : Int) (p2 : Int) (p3 : Int) (H_1 : Heap) (k_G : At D H_1 o (oO 0 [zV p1, zV p2, zV p3])) (k_L : isL D H_1 b n L) (i0 : t ≤ la ∧ la ≤ (L.length : Int)) (hs : (sa, p1, p2, p3) = grI L t (0, pe, pl, le) (la - t).toNat) (hb : 0 ≤ sa ∧ sa ≤ la - t ∧ 1 ≤ p1 ∧ p1 ≤ 300 ∧ 0 ≤ p3 ∧ p3 ≤ 300), ((L.length : Int) - la).toNat < kk → X M ({ frames := 1, cells := 0, slots := 0, locals := 21 } : Room) 6 (rA o (o + 1)) 0 0 (Qof M (rA o (o + 1)) (q_GR_findWithPeriod D o pe pl le b n L t) 0 0) 5 [(4, zV la), (3, zV sa), (0, .ref o), (1, .ref b), (2, zV t)] [] H_1 := by
    intro kk
    induction kk with
    | zero => intro la sa p1 p2 p3 H_1 k_G k_L i0 hs hb hk; exact absurd hk (Nat.not_lt_zero _)
    | succ kk ih_5 =>
      intro la sa p1 p2 p3 H_1 k_G k_L i0 hs hb hk_5
      refine x_iload ho 0 d_GR_findWithPeriod_5 rfl ?_
      refine x_aload_n ho 3 d_GR_findWithPeriod_7 rfl ?_
      refine x_callV (rest := [zV la]) ho d_GR_findWithPeriod_8 yv_LE_length g_323 g_324 g_673 (c_LE_length M.2.1 D b n L ) rfl rfl ⟨Nat.le_of_ble_eq_true rfl, Nat.le_of_ble_eq_true rfl⟩ ⟨Nat.le_of_ble_eq_true rfl, Nat.le_of_ble_eq_true rfl⟩ rfl rfl (Nat.le_of_ble_eq_true rfl) k_L.1 rfl rfl k_L fr_none' (x_rd (fun v_2 hv_2 => ?_))
      obtain rfl := hv_2
      show X _ _ _ _ _ _ _ _ _ [zV ((L.length : Int)), zV la] _
      refine x_icmp_ge (tgt := 88) ho d_GR_findWithPeriod_11 (by decide) (by omega) (by omega) (fun c_11 => ?_) (fun c_11 => ?_)
      ·
        refine x_vret ho hr d_GR_findWithPeriod_88 ?_
        exact ⟨(sa, p1, p2, p3), rfl, by rw [show (L.length : Int) - t = la - t by omega]; exact hs, ⟨hb.2.2.1, hb.2.2.2.1, hb.2.2.2.2.1, hb.2.2.2.2.2⟩, k_G, k_L⟩
      ·
        refine x_aload_n ho 3 d_GR_findWithPeriod_14 rfl ?_
        refine x_iload ho 0 d_GR_findWithPeriod_15 rfl ?_
        refine x_callV (rest := []) ho d_GR_findWithPeriod_17 yv_LE_letterAt g_343 g_344 g_677 (c_LE_letterAt M.2.1 D b n L la (by omega)) rfl rfl ⟨Nat.le_of_ble_eq_true rfl, Nat.le_of_ble_eq_true rfl⟩ ⟨Nat.le_of_ble_eq_true rfl, Nat.le_of_ble_eq_true rfl⟩ rfl rfl (Nat.le_of_ble_eq_true rfl) k_L.1 rfl rfl k_L fr_none' (x_rd (fun v_4 hv_4 => ?_))
        obtain ⟨rfl, hr_6⟩ := hv_4
        show X _ _ _ _ _ _ _ _ _ [zV (lat L la)] _
        refine x_eqI (b := gA L la) (by exact lat_in (by omega) (by omega)) ?_
        refine x_aload_n ho 3 d_GR_findWithPeriod_20 rfl ?_
        refine x_iload ho 0 d_GR_findWithPeriod_21 rfl ?_
        refine x_iload_n ho 4 d_GR_findWithPeriod_23 rfl ?_
        refine x_isub ho d_GR_findWithPeriod_24 ?_
        refine x_callV (rest := [zV (gA L la)]) ho d_GR_findWithPeriod_25 yv_LE_letterAt g_343 g_344 g_677 (c_LE_letterAt M.2.1 D b n L (la - t) (by omega)) rfl rfl ⟨Nat.le_of_ble_eq_true rfl, Nat.le_of_ble_eq_true rfl⟩ ⟨Nat.le_of_ble_eq_true rfl, Nat.le_of_ble_eq_true rfl⟩ rfl rfl (Nat.le_of_ble_eq_true rfl) k_L.1 rfl rfl k_L fr_none' (x_rd (fun v_7 hv_7 => ?_))
        obtain ⟨rfl, hr_9⟩ := hv_7
        show X _ _ _ _ _ _ _ _ _ [zV (lat L (la - t)), zV (gA L la)] _
        refine x_eqI (b := gA L (la - t)) (by exact lat_in (by omega) (by omega)) ?_
        have hg1 := gA_r h_w la
        have hg2 := gA_r h_w (la - t)
        have hm2 := mul_9 (a := p3) (b := t) (by omega) (by omega)
        refine x_icmp_ne (tgt := 37) ho d_GR_findWithPeriod_28 (by decide) (by omega) (by omega) (fun c_28 => ?_) (fun c_28 => ?_)
        ·
          refine x_iconst ho d_GR_findWithPeriod_37 ?_
          refine x_istore_n (L' := [(3, zV 0), (4, zV la), (0, .ref o), (1, .ref b), (2, zV t)]) ho d_GR_findWithPeriod_38 (by decide) rfl ?_
          refine x_iload_n ho 4 d_GR_findWithPeriod_39 rfl ?_
          refine x_iload_n ho 0 d_GR_findWithPeriod_40 rfl ?_
          refine x_iadd ho d_GR_findWithPeriod_41 ?_
          refine x_istore (L' := [(5, zV (t + 0)), (3, zV 0), (4, zV la), (0, .ref o), (1, .ref b), (2, zV t)]) ho d_GR_findWithPeriod_42 (by decide) rfl ?_
          refine x_iload ho 0 d_GR_findWithPeriod_44 rfl ?_
          refine x_aload_n ho 3 d_GR_findWithPeriod_46 rfl ?_
          refine x_get 0 ho d_GR_findWithPeriod_47 cl_GR (by decide) g_196 k_G rfl ?_
          have hm1 := mul_9 (a := t + 0) (b := p1) (by omega) (by omega)
          refine x_imul ho d_GR_findWithPeriod_50 ?_
          refine x_aload_n ho 3 d_GR_findWithPeriod_51 rfl ?_
          refine x_get 2 ho d_GR_findWithPeriod_52 cl_GR (by decide) g_198 k_G rfl ?_
          refine x_iload_n ho 5 d_GR_findWithPeriod_55 rfl ?_
          refine x_imul ho d_GR_findWithPeriod_56 ?_
          refine x_icmp_le (tgt := 82) ho d_GR_findWithPeriod_57 (by decide) (by omega) (by omega) (fun c_57 => ?_) (fun c_57 => ?_)
          ·
            refine x_iinc (L' := [(4, zV (la + 1)), (5, zV (t + 0)), (3, zV 0), (0, .ref o), (1, .ref b), (2, zV t)]) ho 2 d_GR_findWithPeriod_82 rfl rfl (by decide) rfl ?_
            refine x_goto (tgt := 5) ho d_GR_findWithPeriod_85 (by decide) ?_
            refine x_sub (L' := [(4, zV (la + 1)), (3, zV 0), (0, .ref o), (1, .ref b), (2, zV t)]) [0, 2, 3, 4, 5] rfl ?_
            exact ih_5 (la + 1) 0 p1 p2 p3 H_1 k_G k_L (by omega) (by rw [show (la + 1 - t).toNat = (la - t).toNat + 1 by omega]; show _ = grS L t _ (grI L t (0, pe, pl, le) (la - t).toNat); rw [← hs, show (((la - t).toNat : Nat) : Int) = la - t by omega, grS_a (by rw [show t + (la - t) = la by omega]; exact c_28) c_57]) (by omega) (by omega)
          ·
            refine x_aload_n ho 3 d_GR_findWithPeriod_60 rfl ?_
            refine x_iload_n ho 5 d_GR_findWithPeriod_61 rfl ?_
            refine x_put 0 ho d_GR_findWithPeriod_62 cl_GR (by decide) g_196 k_G rfl rfl rfl (Nat.le_of_ble_eq_true rfl) (rA_in (by omega) (by omega)) (fun H_10 p_11 z_12 q_13 => ?_)
            have k_14 := k_L.kept (fun q g1 g2 => q_13 q (by omega))
            refine x_aload_n ho 3 d_GR_findWithPeriod_65 rfl ?_
            refine x_iload ho 2 d_GR_findWithPeriod_66 rfl ?_
            refine x_iload ho 0 d_GR_findWithPeriod_68 rfl ?_
            refine x_isub ho d_GR_findWithPeriod_70 ?_
            refine x_iconst ho d_GR_findWithPeriod_71 ?_
            refine x_iadd ho d_GR_findWithPeriod_72 ?_
            refine x_put 1 ho d_GR_findWithPeriod_73 cl_GR (by decide) g_197 p_11 rfl rfl rfl (Nat.le_of_ble_eq_true rfl) (rA_in (by omega) (by omega)) (fun H_15 p_16 z_17 q_18 => ?_)
            have k_19 := k_14.kept (fun q g1 g2 => q_18 q (by omega))
            refine x_aload_n ho 3 d_GR_findWithPeriod_76 rfl ?_
            refine x_iload ho 0 d_GR_findWithPeriod_77 rfl ?_
            refine x_put 2 ho d_GR_findWithPeriod_79 cl_GR (by decide) g_198 p_16 rfl rfl rfl (Nat.le_of_ble_eq_true rfl) (rA_in (by omega) (by omega)) (fun H_20 p_21 z_22 q_23 => ?_)
            have k_24 := k_19.kept (fun q g1 g2 => q_23 q (by omega))
            refine x_iinc (L' := [(4, zV (la + 1)), (5, zV (t + 0)), (3, zV 0), (0, .ref o), (1, .ref b), (2, zV t)]) ho 2 d_GR_findWithPeriod_82 rfl rfl (by decide) rfl ?_
            refine x_goto (tgt := 5) ho d_GR_findWithPeriod_85 (by decide) ?_
            refine x_sub (L' := [(4, zV (la + 1)), (3, zV 0), (0, .ref o), (1, .ref b), (2, zV t)]) [0, 2, 3, 4, 5] rfl ?_
            exact ih_5 (la + 1) 0 t (la - (t + 0) + 1) (t + 0) H_20 p_21 k_24 (by omega) (by rw [show (la + 1 - t).toNat = (la - t).toNat + 1 by omega]; show _ = grS L t _ (grI L t (0, pe, pl, le) (la - t).toNat); rw [← hs, show (((la - t).toNat : Nat) : Int) = la - t by omega, grS_b (by rw [show t + (la - t) = la by omega]; exact c_28) c_57]; exact gv_eq rfl rfl (by omega) rfl) (by omega) (by omega)
        ·
          refine x_iload_n ho 1 d_GR_findWithPeriod_31 rfl ?_
          refine x_iconst ho d_GR_findWithPeriod_32 ?_
          refine x_iadd ho d_GR_findWithPeriod_33 ?_
          refine x_goto (tgt := 38) ho d_GR_findWithPeriod_34 (by decide) ?_
          refine x_istore_n (L' := [(3, zV (sa + 1)), (4, zV la), (0, .ref o), (1, .ref b), (2, zV t)]) ho d_GR_findWithPeriod_38 (by decide) rfl ?_
          refine x_iload_n ho 4 d_GR_findWithPeriod_39 rfl ?_
          refine x_iload_n ho 0 d_GR_findWithPeriod_40 rfl ?_
          refine x_iadd ho d_GR_findWithPeriod_41 ?_
          refine x_istore (L' := [(5, zV (t + (sa + 1))), (3, zV (sa + 1)), (4, zV la), (0, .ref o), (1, .ref b), (2, zV t)]) ho d_GR_findWithPeriod_42 (by decide) rfl ?_
          refine x_iload ho 0 d_GR_findWithPeriod_44 rfl ?_
          refine x_aload_n ho 3 d_GR_findWithPeriod_46 rfl ?_
          refine x_get 0 ho d_GR_findWithPeriod_47 cl_GR (by decide) g_196 k_G rfl ?_
          have hm1 := mul_9 (a := t + (sa + 1)) (b := p1) (by omega) (by omega)
          refine x_imul ho d_GR_findWithPeriod_50 ?_
          refine x_aload_n ho 3 d_GR_findWithPeriod_51 rfl ?_
          refine x_get 2 ho d_GR_findWithPeriod_52 cl_GR (by decide) g_198 k_G rfl ?_
          refine x_iload_n ho 5 d_GR_findWithPeriod_55 rfl ?_
          refine x_imul ho d_GR_findWithPeriod_56 ?_
          refine x_icmp_le (tgt := 82) ho d_GR_findWithPeriod_57 (by decide) (by omega) (by omega) (fun c_57 => ?_) (fun c_57 => ?_)
          ·
            refine x_iinc (L' := [(4, zV (la + 1)), (5, zV (t + (sa + 1))), (3, zV (sa + 1)), (0, .ref o), (1, .ref b), (2, zV t)]) ho 2 d_GR_findWithPeriod_82 rfl rfl (by decide) rfl ?_
            refine x_goto (tgt := 5) ho d_GR_findWithPeriod_85 (by decide) ?_
            refine x_sub (L' := [(4, zV (la + 1)), (3, zV (sa + 1)), (0, .ref o), (1, .ref b), (2, zV t)]) [0, 2, 3, 4, 5] rfl ?_
            exact ih_5 (la + 1) (sa + 1) p1 p2 p3 H_1 k_G k_L (by omega) (by rw [show (la + 1 - t).toNat = (la - t).toNat + 1 by omega]; show _ = grS L t _ (grI L t (0, pe, pl, le) (la - t).toNat); rw [← hs, show (((la - t).toNat : Nat) : Int) = la - t by omega, grS_c (by rw [show t + (la - t) = la by omega]; exact c_28) c_57]) (by omega) (by omega)
          ·
            refine x_aload_n ho 3 d_GR_findWithPeriod_60 rfl ?_
            refine x_iload_n ho 5 d_GR_findWithPeriod_61 rfl ?_
            refine x_put 0 ho d_GR_findWithPeriod_62 cl_GR (by decide) g_196 k_G rfl rfl rfl (Nat.le_of_ble_eq_true rfl) (rA_in (by omega) (by omega)) (fun H_25 p_26 z_27 q_28 => ?_)
            have k_29 := k_L.kept (fun q g1 g2 => q_28 q (by omega))
            refine x_aload_n ho 3 d_GR_findWithPeriod_65 rfl ?_
            refine x_iload ho 2 d_GR_findWithPeriod_66 rfl ?_
            refine x_iload ho 0 d_GR_findWithPeriod_68 rfl ?_
            refine x_isub ho d_GR_findWithPeriod_70 ?_
            refine x_iconst ho d_GR_findWithPeriod_71 ?_
            refine x_iadd ho d_GR_findWithPeriod_72 ?_
            refine x_put 1 ho d_GR_findWithPeriod_73 cl_GR (by decide) g_197 p_26 rfl rfl rfl (Nat.le_of_ble_eq_true rfl) (rA_in (by omega) (by omega)) (fun H_30 p_31 z_32 q_33 => ?_)
            have k_34 := k_29.kept (fun q g1 g2 => q_33 q (by omega))
            refine x_aload_n ho 3 d_GR_findWithPeriod_76 rfl ?_
            refine x_iload ho 0 d_GR_findWithPeriod_77 rfl ?_
            refine x_put 2 ho d_GR_findWithPeriod_79 cl_GR (by decide) g_198 p_31 rfl rfl rfl (Nat.le_of_ble_eq_true rfl) (rA_in (by omega) (by omega)) (fun H_35 p_36 z_37 q_38 => ?_)
            have k_39 := k_34.kept (fun q g1 g2 => q_38 q (by omega))
            refine x_iinc (L' := [(4, zV (la + 1)), (5, zV (t + (sa + 1))), (3, zV (sa + 1)), (0, .ref o), (1, .ref b), (2, zV t)]) ho 2 d_GR_findWithPeriod_82 rfl rfl (by decide) rfl ?_
            refine x_goto (tgt := 5) ho d_GR_findWithPeriod_85 (by decide) ?_
            refine x_sub (L' := [(4, zV (la + 1)), (3, zV (sa + 1)), (0, .ref o), (1, .ref b), (2, zV t)]) [0, 2, 3, 4, 5] rfl ?_
            exact ih_5 (la + 1) (sa + 1) t (la - (t + (sa + 1)) + 1) (t + (sa + 1)) H_35 p_36 k_39 (by omega) (by rw [show (la + 1 - t).toNat = (la - t).toNat + 1 by omega]; show _ = grS L t _ (grI L t (0, pe, pl, le) (la - t).toNat); rw [← hs, show (((la - t).toNat : Nat) : Int) = la - t by omega, grS_d (by rw [show t + (la - t) = la by omega]; exact c_28) c_57]; exact gv_eq rfl rfl (by omega) rfl) (by omega) (by omega)
  exact loop_5 _ t 0 pe pl le H hG hL (by omega) (by rw [show (t - t).toNat = 0 by omega]; rfl) (by omega) (Nat.lt_succ_self _)
def q_LM_place (D : GG) (o : Nat) (pl : Int) (le : Int) : Option Value → Heap → Prop := fun v0 H => v0 = some (zV pl)
theorem yv_LM_place : Yv y_LM_place b_LM_place 1 (Option.some FieldType.int) 0 := ⟨g_706, g_63, by decide, by decide +kernel⟩
set_option maxHeartbeats 4000000 in
set_option maxRecDepth 100000 in
theorem c_LM_place (l0 : Launch) (D : GG) (o : Nat) (pl : Int) (le : Int)  : Ct l0 D y_LM_place b_LM_place 1 (Option.some FieldType.int) ({ frames := 0, cells := 0, slots := 0, locals := 0 } : Room) [.ref o] (fun H => isM D H o pl le) nA 0 0 (q_LM_place D o pl le) := by
  refine Ct.of (L := [(0, .ref o)]) (by decide) (Nat.le_of_ble_eq_true rfl) rfl (fun M H ho hr hnm hH hpre => ?_)
  have hM := hpre
  refine x_aload_n ho 0 d_LM_place_0 rfl ?_
  refine x_get 0 ho d_LM_place_1 cl_LM (by decide) g_211 hM rfl ?_
  refine x_iret ho hr d_LM_place_4 ?_
  exact rfl
def q_LM_length (D : GG) (o : Nat) (pl : Int) (le : Int) : Option Value → Heap → Prop := fun v0 H => v0 = some (zV le)
theorem yv_LM_length : Yv y_LM_length b_LM_length 1 (Option.some FieldType.int) 0 := ⟨g_710, g_63, by decide, by decide +kernel⟩
set_option maxHeartbeats 4000000 in
set_option maxRecDepth 100000 in
theorem c_LM_length (l0 : Launch) (D : GG) (o : Nat) (pl : Int) (le : Int)  : Ct l0 D y_LM_length b_LM_length 1 (Option.some FieldType.int) ({ frames := 0, cells := 0, slots := 0, locals := 0 } : Room) [.ref o] (fun H => isM D H o pl le) nA 0 0 (q_LM_length D o pl le) := by
  refine Ct.of (L := [(0, .ref o)]) (by decide) (Nat.le_of_ble_eq_true rfl) rfl (fun M H ho hr hnm hH hpre => ?_)
  have hM := hpre
  refine x_aload_n ho 0 d_LM_length_0 rfl ?_
  refine x_get 1 ho d_LM_length_1 cl_LM (by decide) g_212 hM rfl ?_
  refine x_iret ho hr d_LM_length_4 ?_
  exact rfl
def q_LM_findAround (D : GG) (o : Nat) (pl : Int) (le : Int) (b : Nat) (n : Nat) (L : List Int) (l : Int) (r : Int) : Option Value → Heap → Prop := fun v0 H => ∃ (a : Int) (s : Int), v0 = none ∧ maxM L (l + r) a s ∧ isM D H o (if le < s then a else pl) (if le < s then s else le) ∧ isL D H b n L
theorem yv_LM_findAround : Yv y_LM_findAround b_LM_findAround 6 (Option.none : Option FieldType) 3 := ⟨g_701, g_63, by decide, by decide +kernel⟩
set_option maxHeartbeats 4000000 in
set_option maxRecDepth 100000 in
theorem c_LM_findAround (l0 : Launch) (D : GG) (o : Nat) (pl : Int) (le : Int) (b : Nat) (n : Nat) (L : List Int) (l : Int) (r : Int) (hd : o + 1 ≤ b ∨ b + 2 ≤ o) (hl : 0 ≤ l ∧ l < (L.length : Int) ∧ (r = l ∨ r = l + 1)) (hle : 0 ≤ le ∧ le ≤ 300) : Ct l0 D y_LM_findAround b_LM_findAround 6 (Option.none : Option FieldType) ({ frames := 1, cells := 0, slots := 0, locals := 21 } : Room) [.ref o, .ref b, zV l, zV r] (fun H => isM D H o pl le ∧ isL D H b n L) (rA o (o + 1)) 0 0 (q_LM_findAround D o pl le b n L l r) := by
  refine Ct.of (L := [(0, .ref o), (1, .ref b), (2, zV l), (3, zV r)]) (by decide) (Nat.le_of_ble_eq_true rfl) rfl (fun M H ho hr hnm hH hpre => ?_)
  obtain ⟨hM, hL⟩ := hpre
  have h_n := hL.b
  have h_w := hL.w
  refine x_iload_n ho 2 d_LM_findAround_0 rfl ?_
  refine x_istore (L' := [(4, zV l), (0, .ref o), (1, .ref b), (2, zV l), (3, zV r)]) ho d_LM_findAround_1 (by decide) rfl ?_
  refine x_iload_n ho 4 d_LM_findAround_3 rfl ?_
  refine x_istore (L' := [(5, zV r), (4, zV l), (0, .ref o), (1, .ref b), (2, zV l), (3, zV r)]) ho d_LM_findAround_4 (by decide) rfl ?_
  have loop_6 : ∀ (kk : Nat) (x : Int) (y : Int) (i0 : x + y = l + r ∧ -1 ≤ x ∧ y ≤ (L.length : Int) ∧ x ≤ y ∧ x ≤ l) (hm : mir L (x + 1) (y - x - 1)), (x + 1).toNat < kk → X M ({ frames := 1, cells := 0, slots := 0, locals := 21 } : Room) 6 (rA o (o + 1)) 0 0 (Qof M (rA o (o + 1)) (q_LM_findAround D o pl le b n L l r) 0 0) 6 [(5, zV y), (4, zV x), (0, .ref o), (1, .ref b), (2, zV l), (3, zV r)] [] H := by
    intro kk
    induction kk with
    | zero => intro x y i0 hm hk; exact absurd hk (Nat.not_lt_zero _)
    | succ kk ih_6 =>
      intro x y i0 hm hk_6
      refine x_iload ho 1 d_LM_findAround_6 rfl ?_
      refine x_if_lt (tgt := 44) ho d_LM_findAround_8 (by decide) (by omega) (fun c_8 => ?_) (fun c_8 => ?_)
      ·
        have hyx : 0 ≤ y - x - 1 := by omega
        have hmx := maxM_of i0.1 (by omega) (by omega) hyx hm (Or.inl c_8)
        refine x_iload ho 0 d_LM_findAround_44 rfl ?_
        refine x_iload ho 1 d_LM_findAround_46 rfl ?_
        refine x_isub ho d_LM_findAround_48 ?_
        refine x_iconst ho d_LM_findAround_49 ?_
        refine x_isub ho d_LM_findAround_50 ?_
        refine x_aload_n ho 2 d_LM_findAround_51 rfl ?_
        refine x_get 1 ho d_LM_findAround_52 cl_LM (by decide) g_212 hM rfl ?_
        refine x_icmp_le (tgt := 77) ho d_LM_findAround_55 (by decide) (by omega) (by omega) (fun c_55 => ?_) (fun c_55 => ?_)
        ·
          refine x_vret ho hr d_LM_findAround_77 ?_
          exact ⟨_, _, rfl, hmx, by rw [if_neg (by omega), if_neg (by omega)]; exact hM, hL⟩
        ·
          refine x_aload_n ho 2 d_LM_findAround_58 rfl ?_
          refine x_iload ho 1 d_LM_findAround_59 rfl ?_
          refine x_iconst ho d_LM_findAround_61 ?_
          refine x_iadd ho d_LM_findAround_62 ?_
          refine x_put 0 ho d_LM_findAround_63 cl_LM (by decide) g_211 hM rfl rfl rfl (Nat.le_of_ble_eq_true rfl) (rA_in (by omega) (by omega)) (fun H_1 p_2 z_3 q_4 => ?_)
          have k_5 := hL.kept (fun q g1 g2 => q_4 q (by omega))
          refine x_aload_n ho 2 d_LM_findAround_66 rfl ?_
          refine x_iload ho 0 d_LM_findAround_67 rfl ?_
          refine x_iload ho 1 d_LM_findAround_69 rfl ?_
          refine x_isub ho d_LM_findAround_71 ?_
          refine x_iconst ho d_LM_findAround_72 ?_
          refine x_isub ho d_LM_findAround_73 ?_
          refine x_put 1 ho d_LM_findAround_74 cl_LM (by decide) g_212 p_2 rfl rfl rfl (Nat.le_of_ble_eq_true rfl) (rA_in (by omega) (by omega)) (fun H_6 p_7 z_8 q_9 => ?_)
          have k_10 := k_5.kept (fun q g1 g2 => q_9 q (by omega))
          refine x_vret ho hr d_LM_findAround_77 ?_
          exact ⟨_, _, rfl, hmx, by rw [if_pos (by omega), if_pos (by omega)]; exact p_7, k_10⟩
      ·
        refine x_iload ho 0 d_LM_findAround_11 rfl ?_
        refine x_aload_n ho 3 d_LM_findAround_13 rfl ?_
        refine x_callV (rest := [zV y]) ho d_LM_findAround_14 yv_LE_length g_323 g_324 g_698 (c_LE_length M.2.1 D b n L ) rfl rfl ⟨Nat.le_of_ble_eq_true rfl, Nat.le_of_ble_eq_true rfl⟩ ⟨Nat.le_of_ble_eq_true rfl, Nat.le_of_ble_eq_true rfl⟩ rfl rfl (Nat.le_of_ble_eq_true rfl) hL.1 rfl rfl hL fr_none' (x_rd (fun v_11 hv_11 => ?_))
        obtain rfl := hv_11
        show X _ _ _ _ _ _ _ _ _ [zV ((L.length : Int)), zV y] _
        refine x_icmp_ge (tgt := 44) ho d_LM_findAround_17 (by decide) (by omega) (by omega) (fun c_17 => ?_) (fun c_17 => ?_)
        ·
          have hyx : 0 ≤ y - x - 1 := by omega
          have hmx := maxM_of i0.1 (by omega) (by omega) hyx hm (Or.inr (Or.inl c_17))
          refine x_iload ho 0 d_LM_findAround_44 rfl ?_
          refine x_iload ho 1 d_LM_findAround_46 rfl ?_
          refine x_isub ho d_LM_findAround_48 ?_
          refine x_iconst ho d_LM_findAround_49 ?_
          refine x_isub ho d_LM_findAround_50 ?_
          refine x_aload_n ho 2 d_LM_findAround_51 rfl ?_
          refine x_get 1 ho d_LM_findAround_52 cl_LM (by decide) g_212 hM rfl ?_
          refine x_icmp_le (tgt := 77) ho d_LM_findAround_55 (by decide) (by omega) (by omega) (fun c_55 => ?_) (fun c_55 => ?_)
          ·
            refine x_vret ho hr d_LM_findAround_77 ?_
            exact ⟨_, _, rfl, hmx, by rw [if_neg (by omega), if_neg (by omega)]; exact hM, hL⟩
          ·
            refine x_aload_n ho 2 d_LM_findAround_58 rfl ?_
            refine x_iload ho 1 d_LM_findAround_59 rfl ?_
            refine x_iconst ho d_LM_findAround_61 ?_
            refine x_iadd ho d_LM_findAround_62 ?_
            refine x_put 0 ho d_LM_findAround_63 cl_LM (by decide) g_211 hM rfl rfl rfl (Nat.le_of_ble_eq_true rfl) (rA_in (by omega) (by omega)) (fun H_13 p_14 z_15 q_16 => ?_)
            have k_17 := hL.kept (fun q g1 g2 => q_16 q (by omega))
            refine x_aload_n ho 2 d_LM_findAround_66 rfl ?_
            refine x_iload ho 0 d_LM_findAround_67 rfl ?_
            refine x_iload ho 1 d_LM_findAround_69 rfl ?_
            refine x_isub ho d_LM_findAround_71 ?_
            refine x_iconst ho d_LM_findAround_72 ?_
            refine x_isub ho d_LM_findAround_73 ?_
            refine x_put 1 ho d_LM_findAround_74 cl_LM (by decide) g_212 p_14 rfl rfl rfl (Nat.le_of_ble_eq_true rfl) (rA_in (by omega) (by omega)) (fun H_18 p_19 z_20 q_21 => ?_)
            have k_22 := k_17.kept (fun q g1 g2 => q_21 q (by omega))
            refine x_vret ho hr d_LM_findAround_77 ?_
            exact ⟨_, _, rfl, hmx, by rw [if_pos (by omega), if_pos (by omega)]; exact p_19, k_22⟩
        ·
          refine x_aload_n ho 3 d_LM_findAround_20 rfl ?_
          refine x_iload ho 1 d_LM_findAround_21 rfl ?_
          refine x_callV (rest := []) ho d_LM_findAround_23 yv_LE_letterAt g_343 g_344 g_702 (c_LE_letterAt M.2.1 D b n L x (by omega)) rfl rfl ⟨Nat.le_of_ble_eq_true rfl, Nat.le_of_ble_eq_true rfl⟩ ⟨Nat.le_of_ble_eq_true rfl, Nat.le_of_ble_eq_true rfl⟩ rfl rfl (Nat.le_of_ble_eq_true rfl) hL.1 rfl rfl hL fr_none' (x_rd (fun v_23 hv_23 => ?_))
          obtain ⟨rfl, hr_25⟩ := hv_23
          show X _ _ _ _ _ _ _ _ _ [zV (lat L x)] _
          refine x_eqI (b := gA L x) (by exact lat_in (by omega) (by omega)) ?_
          refine x_aload_n ho 3 d_LM_findAround_26 rfl ?_
          refine x_iload ho 0 d_LM_findAround_27 rfl ?_
          refine x_callV (rest := [zV (gA L x)]) ho d_LM_findAround_29 yv_LE_letterAt g_343 g_344 g_702 (c_LE_letterAt M.2.1 D b n L y (by omega)) rfl rfl ⟨Nat.le_of_ble_eq_true rfl, Nat.le_of_ble_eq_true rfl⟩ ⟨Nat.le_of_ble_eq_true rfl, Nat.le_of_ble_eq_true rfl⟩ rfl rfl (Nat.le_of_ble_eq_true rfl) hL.1 rfl rfl hL fr_none' (x_rd (fun v_26 hv_26 => ?_))
          obtain ⟨rfl, hr_28⟩ := hv_26
          show X _ _ _ _ _ _ _ _ _ [zV (lat L y), zV (gA L x)] _
          refine x_eqI (b := gA L y) (by exact lat_in (by omega) (by omega)) ?_
          have hg1 := gA_r h_w x
          have hg2 := gA_r h_w y
          refine x_icmp_ne (tgt := 44) ho d_LM_findAround_32 (by decide) (by omega) (by omega) (fun c_32 => ?_) (fun c_32 => ?_)
          ·
            have hyx : 0 ≤ y - x - 1 := by rcases (show x = y ∨ x < y by omega) with h | h; subst h; exact absurd rfl c_32; omega
            have hmx := maxM_of i0.1 (by omega) (by omega) hyx hm (Or.inr (Or.inr c_32))
            refine x_iload ho 0 d_LM_findAround_44 rfl ?_
            refine x_iload ho 1 d_LM_findAround_46 rfl ?_
            refine x_isub ho d_LM_findAround_48 ?_
            refine x_iconst ho d_LM_findAround_49 ?_
            refine x_isub ho d_LM_findAround_50 ?_
            refine x_aload_n ho 2 d_LM_findAround_51 rfl ?_
            refine x_get 1 ho d_LM_findAround_52 cl_LM (by decide) g_212 hM rfl ?_
            refine x_icmp_le (tgt := 77) ho d_LM_findAround_55 (by decide) (by omega) (by omega) (fun c_55 => ?_) (fun c_55 => ?_)
            ·
              refine x_vret ho hr d_LM_findAround_77 ?_
              exact ⟨_, _, rfl, hmx, by rw [if_neg (by omega), if_neg (by omega)]; exact hM, hL⟩
            ·
              refine x_aload_n ho 2 d_LM_findAround_58 rfl ?_
              refine x_iload ho 1 d_LM_findAround_59 rfl ?_
              refine x_iconst ho d_LM_findAround_61 ?_
              refine x_iadd ho d_LM_findAround_62 ?_
              refine x_put 0 ho d_LM_findAround_63 cl_LM (by decide) g_211 hM rfl rfl rfl (Nat.le_of_ble_eq_true rfl) (rA_in (by omega) (by omega)) (fun H_29 p_30 z_31 q_32 => ?_)
              have k_33 := hL.kept (fun q g1 g2 => q_32 q (by omega))
              refine x_aload_n ho 2 d_LM_findAround_66 rfl ?_
              refine x_iload ho 0 d_LM_findAround_67 rfl ?_
              refine x_iload ho 1 d_LM_findAround_69 rfl ?_
              refine x_isub ho d_LM_findAround_71 ?_
              refine x_iconst ho d_LM_findAround_72 ?_
              refine x_isub ho d_LM_findAround_73 ?_
              refine x_put 1 ho d_LM_findAround_74 cl_LM (by decide) g_212 p_30 rfl rfl rfl (Nat.le_of_ble_eq_true rfl) (rA_in (by omega) (by omega)) (fun H_34 p_35 z_36 q_37 => ?_)
              have k_38 := k_33.kept (fun q g1 g2 => q_37 q (by omega))
              refine x_vret ho hr d_LM_findAround_77 ?_
              exact ⟨_, _, rfl, hmx, by rw [if_pos (by omega), if_pos (by omega)]; exact p_35, k_38⟩
          ·
            refine x_iinc (L' := [(4, zV (x + (-1))), (5, zV y), (0, .ref o), (1, .ref b), (2, zV l), (3, zV r)]) ho 1 d_LM_findAround_35 rfl rfl (by decide) rfl ?_
            refine x_iinc (L' := [(5, zV (y + 1)), (4, zV (x + (-1))), (0, .ref o), (1, .ref b), (2, zV l), (3, zV r)]) ho 1 d_LM_findAround_38 rfl rfl (by decide) rfl ?_
            refine x_goto (tgt := 6) ho d_LM_findAround_41 (by decide) ?_
            exact ih_6 (x + (-1)) (y + 1) (by omega) (by rw [show x + (-1) + 1 = x by omega, show y + 1 - (x + (-1)) - 1 = y - x + 1 by omega]; exact mir_back hm (by omega) c_32) (by omega)
  exact loop_6 _ l r (by omega) (by exact mir_small (by omega)) (Nat.lt_succ_self _)
