def q_RU_imageOf (D : GG) (r : Nat) (p : Int → Nat) (c : Int → List Int) (x : Int) : Option Value → Heap → Prop := fun v0 H => v0 = some (.ref (p x)) ∧ (r + 4 ≤ p x ∧ p x + 2 ≤ r + 12) ∧ isL D H (p x) 8 (c x)
theorem yv_RU_imageOf : Yv y_RU_imageOf b_RU_imageOf 2 (Option.some (FieldType.object "MorphWords$Letters")) 1 := ⟨g_296, g_55, by decide, by decide +kernel⟩
set_option maxHeartbeats 4000000 in
set_option maxRecDepth 100000 in
theorem c_RU_imageOf (l0 : Launch) (D : GG) (r : Nat) (p : Int → Nat) (c : Int → List Int) (x : Int) (hx : 0 ≤ x ∧ x < 4) : Ct l0 D y_RU_imageOf b_RU_imageOf 2 (Option.some (FieldType.object "MorphWords$Letters")) ({ frames := 1, cells := 0, slots := 0, locals := 20 } : Room) [.ref r, zV x] (fun H => isR D H r p c) nA 0 0 (q_RU_imageOf D r p c x) := by
  refine Ct.of (L := [(0, .ref r), (1, zV x)]) (by decide) (Nat.le_of_ble_eq_true rfl) rfl (fun M H ho hr hnm hH hpre => ?_)
  have hR := hpre
  obtain ⟨h_o, h_a, h_n, h_4, h_b, h_d⟩ := id hR
  refine x_iload_n ho 1 d_RU_imageOf_0 rfl ?_
  refine x_callSN (host := "MorphWords") (rest := []) ho d_RU_imageOf_1 yv_MW_isLetter g_109 (List.mem_of_getElem? (i := 7) rfl) (c_MW_isLetter M.2.1 D x (by omega)) rfl rfl ⟨Nat.le_of_ble_eq_true rfl, Nat.le_of_ble_eq_true rfl⟩ ⟨Nat.le_of_ble_eq_true rfl, Nat.le_of_ble_eq_true rfl⟩ rfl rfl (Nat.le_of_ble_eq_true rfl) trivial fr_none' (x_rd (fun v_1 hv_1 => ?_))
  obtain rfl := hv_1
  show X _ _ _ _ _ _ _ _ _ [zV (bI (0 ≤ x ∧ x < 4))] _
  refine x_if_eqB (tgt := 16) ho d_RU_imageOf_4 (by decide) (fun c_4 => ?_) (fun c_4 => ?_)
  ·
    exact absurd hx c_4
  ·
    refine x_aload_n ho 0 d_RU_imageOf_7 rfl ?_
    refine x_get 0 ho d_RU_imageOf_8 cl_RU (by decide) g_111 hR.1 rfl ?_
    refine x_iload_n ho 1 d_RU_imageOf_11 rfl ?_
    refine x_aald (b := p x) ho d_RU_imageOf_12 h_a rfl (by omega) (by omega) (by omega) (by rfl) ?_
    refine x_goto (tgt := 20) ho d_RU_imageOf_13 (by decide) ?_
    refine x_aret ho hr d_RU_imageOf_20 ?_
    exact ⟨rfl, h_b x hx.1 hx.2, h_4 x hx.1 hx.2⟩
def q_RU_imageOf_g (D : GG) (r : Nat) (p : Int → Nat) (c : Int → List Int) (x : Int) : Option Value → Heap → Prop := fun v0 H => (v0 = some (.ref (p x)) ∧ (0 ≤ x ∧ x < 4) ∧ (r + 4 ≤ p x ∧ p x + 2 ≤ r + 12) ∧ isL D H (p x) 8 (c x)) ∨ (v0 = some (.ref (r + 2)) ∧ (¬ (0 ≤ x ∧ x < 4)) ∧ isL D H (r + 2) 0 ([]))
set_option maxHeartbeats 4000000 in
set_option maxRecDepth 100000 in
theorem c_RU_imageOf_g (l0 : Launch) (D : GG) (r : Nat) (p : Int → Nat) (c : Int → List Int) (x : Int) (hx : -2147483648 ≤ x ∧ x ≤ 2147483647) : Ct l0 D y_RU_imageOf b_RU_imageOf 2 (Option.some (FieldType.object "MorphWords$Letters")) ({ frames := 1, cells := 0, slots := 0, locals := 20 } : Room) [.ref r, zV x] (fun H => isR D H r p c) nA 0 0 (q_RU_imageOf_g D r p c x) := by
  refine Ct.of (L := [(0, .ref r), (1, zV x)]) (by decide) (Nat.le_of_ble_eq_true rfl) rfl (fun M H ho hr hnm hH hpre => ?_)
  have hR := hpre
  obtain ⟨h_o, h_a, h_n, h_4, h_b, h_d⟩ := id hR
  refine x_iload_n ho 1 d_RU_imageOf_0 rfl ?_
  refine x_callSN (host := "MorphWords") (rest := []) ho d_RU_imageOf_1 yv_MW_isLetter g_109 (List.mem_of_getElem? (i := 7) rfl) (c_MW_isLetter M.2.1 D x (by omega)) rfl rfl ⟨Nat.le_of_ble_eq_true rfl, Nat.le_of_ble_eq_true rfl⟩ ⟨Nat.le_of_ble_eq_true rfl, Nat.le_of_ble_eq_true rfl⟩ rfl rfl (Nat.le_of_ble_eq_true rfl) trivial fr_none' (x_rd (fun v_1 hv_1 => ?_))
  obtain rfl := hv_1
  show X _ _ _ _ _ _ _ _ _ [zV (bI (0 ≤ x ∧ x < 4))] _
  refine x_if_eqB (tgt := 16) ho d_RU_imageOf_4 (by decide) (fun c_4 => ?_) (fun c_4 => ?_)
  ·
    refine x_aload_n ho 0 d_RU_imageOf_16 rfl ?_
    refine x_get 1 ho d_RU_imageOf_17 cl_RU (by decide) g_112 hR.1 rfl ?_
    refine x_aret ho hr d_RU_imageOf_20 ?_
    exact Or.inr ⟨rfl, c_4, h_n⟩
  ·
    refine x_aload_n ho 0 d_RU_imageOf_7 rfl ?_
    refine x_get 0 ho d_RU_imageOf_8 cl_RU (by decide) g_111 hR.1 rfl ?_
    refine x_iload_n ho 1 d_RU_imageOf_11 rfl ?_
    refine x_aald (b := p x) ho d_RU_imageOf_12 h_a rfl (by omega) (by omega) (by omega) (by rfl) ?_
    refine x_goto (tgt := 20) ho d_RU_imageOf_13 (by decide) ?_
    refine x_aret ho hr d_RU_imageOf_20 ?_
    exact Or.inl ⟨rfl, c_4, h_b x c_4.1 c_4.2, h_4 x c_4.1 c_4.2⟩
def q_RU_become (D : GG) (r : Nat) (p : Int → Nat) (c : Int → List Int) (r2 : Nat) (p2 : Int → Nat) (c2 : Int → List Int) : Option Value → Heap → Prop := fun v0 H => v0 = none ∧ isR D H r p c2 ∧ isR D H r2 p2 c2
theorem yv_RU_become : Yv y_RU_become b_RU_become 3 (Option.none : Option FieldType) 1 := ⟨g_292, g_55, by decide, by decide +kernel⟩
set_option maxHeartbeats 4000000 in
set_option maxRecDepth 100000 in
theorem c_RU_become (l0 : Launch) (D : GG) (r : Nat) (p : Int → Nat) (c : Int → List Int) (r2 : Nat) (p2 : Int → Nat) (c2 : Int → List Int) (hd : r + 12 ≤ r2 ∨ r2 + 12 ≤ r) : Ct l0 D y_RU_become b_RU_become 3 (Option.none : Option FieldType) ({ frames := 2, cells := 0, slots := 0, locals := 82 } : Room) [.ref r, .ref r2] (fun H => isR D H r p c ∧ isR D H r2 p2 c2) (rA r (r + 12)) 0 0 (q_RU_become D r p c r2 p2 c2) := by
  refine Ct.of (L := [(0, .ref r), (1, .ref r2)]) (by decide) (Nat.le_of_ble_eq_true rfl) rfl (fun M H ho hr hnm hH hpre => ?_)
  obtain ⟨hR, hS⟩ := hpre
  refine x_iconst ho d_RU_become_0 ?_
  refine x_istore_n (L' := [(2, zV 0), (0, .ref r), (1, .ref r2)]) ho d_RU_become_1 (by decide) rfl ?_
  have loop_2 : ∀ (kk : Nat) (i : Int) (g : Int → List Int) (H_1 : Heap) (gR : isR D H_1 r p g) (gS : isR D H_1 r2 p2 c2) (i0 : 0 ≤ i ∧ i ≤ 4) (hg : ∀ j : Int, 0 ≤ j → j < i → g j = c2 j), (4 - i).toNat < kk → X M ({ frames := 2, cells := 0, slots := 0, locals := 82 } : Room) 3 (rA r (r + 12)) 0 0 (Qof M (rA r (r + 12)) (q_RU_become D r p c r2 p2 c2) 0 0) 2 [(2, zV i), (0, .ref r), (1, .ref r2)] [] H_1 := by
    intro kk
    induction kk with
    | zero => intro i g H_1 gR gS i0 hg hk; exact absurd hk (Nat.not_lt_zero _)
    | succ kk ih_2 =>
      intro i g H_1 gR gS i0 hg hk_2
      refine x_iload_n ho 0 d_RU_become_2 rfl ?_
      refine x_iconst ho d_RU_become_3 ?_
      refine x_icmp_ge (tgt := 26) ho d_RU_become_4 (by decide) (by omega) (by omega) (fun c_4 => ?_) (fun c_4 => ?_)
      ·
        refine x_vret ho hr d_RU_become_26 ?_
        exact ⟨rfl, gR.c (fun j h0 h1 => hg j h0 (by omega)), gS⟩
      ·
        refine x_aload_n ho 1 d_RU_become_7 rfl ?_
        refine x_iload_n ho 0 d_RU_become_8 rfl ?_
        refine x_callV (rest := []) ho d_RU_become_9 yv_RU_imageOf g_294 g_295 g_293 (c_RU_imageOf M.2.1 D r p g i (by omega)) rfl rfl ⟨Nat.le_of_ble_eq_true rfl, Nat.le_of_ble_eq_true rfl⟩ ⟨Nat.le_of_ble_eq_true rfl, Nat.le_of_ble_eq_true rfl⟩ rfl rfl (Nat.le_of_ble_eq_true rfl) gR.1 rfl rfl gR fr_none' (x_rd (fun v_2 hv_2 => ?_))
        obtain ⟨rfl, hb_4, hI_5⟩ := hv_2
        show X _ _ _ _ _ _ _ _ _ [.ref (p i)] _
        refine x_aload_n ho 2 d_RU_become_12 rfl ?_
        refine x_iload_n ho 0 d_RU_become_13 rfl ?_
        refine x_callV (rest := [.ref (p i)]) ho d_RU_become_14 yv_RU_imageOf g_294 g_295 g_293 (c_RU_imageOf M.2.1 D r2 p2 c2 i (by omega)) rfl rfl ⟨Nat.le_of_ble_eq_true rfl, Nat.le_of_ble_eq_true rfl⟩ ⟨Nat.le_of_ble_eq_true rfl, Nat.le_of_ble_eq_true rfl⟩ rfl rfl (Nat.le_of_ble_eq_true rfl) gS.1 rfl rfl gS fr_none' (x_rd (fun v_6 hv_6 => ?_))
        obtain ⟨rfl, hb_8, hI_9⟩ := hv_6
        show X _ _ _ _ _ _ _ _ _ [.ref (p2 i), .ref (p i)] _
        have kw := (gS.w (i := i) (by omega) (by omega)).2
        refine x_callV (rest := []) ho d_RU_become_17 yv_LE_become g_298 g_299 g_297 (c_LE_become M.2.1 D (p i) 8 (g i) (p2 i) 8 (c2 i) (by omega) (by omega)) rfl rfl ⟨Nat.le_of_ble_eq_true rfl, Nat.le_of_ble_eq_true rfl⟩ ⟨Nat.le_of_ble_eq_true rfl, Nat.le_of_ble_eq_true rfl⟩ rfl rfl (Nat.le_of_ble_eq_true rfl) hI_5.1 rfl rfl ⟨hI_5, hI_9⟩ (rA_sub (by omega) (by omega)) (fun v_10 H_12 hv_10 f_11 => ?_)
        have k_13 := gS.kept (fun q g1 g2 => f_11.2 q (by have := gS.lt; omega) (rA_no (by omega)))
        obtain ⟨rfl, hL_14, hK_15⟩ := hv_10
        have r_16 : isR D H_12 r p (zU g i (c2 i)) := isR_set gR (by omega) (by omega) hL_14 f_11
        show X _ _ _ _ _ _ _ _ _ [] _
        refine x_iinc (L' := [(2, zV (i + 1)), (0, .ref r), (1, .ref r2)]) ho 0 d_RU_become_20 rfl rfl (by decide) rfl ?_
        refine x_goto (tgt := 2) ho d_RU_become_23 (by decide) ?_
        exact ih_2 (i + 1) (zU g i (c2 i)) H_12 r_16 k_13 (by omega) (by
            intro j h0 h1
            by_cases h : j = i
            · subst h; rw [zU_s]
            · rw [zU_n _ _ h]; exact hg j h0 (by omega)) (by omega)
  exact loop_2 _ 0 c H hR hS (by omega) (by intro j h0 h1; omega) (Nat.lt_succ_self _)
def q_RU_same (D : GG) (r : Nat) (p : Int → Nat) (c : Int → List Int) (r2 : Nat) (p2 : Int → Nat) (c2 : Int → List Int) : Option Value → Heap → Prop := fun v0 H => (v0 = some (zV (bI (∀ j : Int, 0 ≤ j → j < 4 → c j = c2 j))))
theorem yv_RU_same : Yv y_RU_same b_RU_same 3 (Option.some FieldType.boolean) 1 := ⟨g_333, g_55, by decide, by decide +kernel⟩
set_option maxHeartbeats 4000000 in
set_option maxRecDepth 100000 in
theorem c_RU_same (l0 : Launch) (D : GG) (r : Nat) (p : Int → Nat) (c : Int → List Int) (r2 : Nat) (p2 : Int → Nat) (c2 : Int → List Int)  : Ct l0 D y_RU_same b_RU_same 3 (Option.some FieldType.boolean) ({ frames := 3, cells := 0, slots := 0, locals := 65 } : Room) [.ref r, .ref r2] (fun H => isR D H r p c ∧ isR D H r2 p2 c2) nA 0 0 (q_RU_same D r p c r2 p2 c2) := by
  refine Ct.of (L := [(0, .ref r), (1, .ref r2)]) (by decide) (Nat.le_of_ble_eq_true rfl) rfl (fun M H ho hr hnm hH hpre => ?_)
  obtain ⟨hR, hS⟩ := hpre
  refine x_iconst ho d_RU_same_0 ?_
  refine x_istore_n (L' := [(2, zV 0), (0, .ref r), (1, .ref r2)]) ho d_RU_same_1 (by decide) rfl ?_
  have loop_2 : ∀ (kk : Nat) (i : Int) (i0 : 0 ≤ i ∧ i ≤ 4) (hj : ∀ j : Int, 0 ≤ j → j < i → c j = c2 j), (4 - i).toNat < kk → X M ({ frames := 3, cells := 0, slots := 0, locals := 65 } : Room) 3 nA 0 0 (Qof M nA (q_RU_same D r p c r2 p2 c2) 0 0) 2 [(2, zV i), (0, .ref r), (1, .ref r2)] [] H := by
    intro kk
    induction kk with
    | zero => intro i i0 hj hk; exact absurd hk (Nat.not_lt_zero _)
    | succ kk ih_2 =>
      intro i i0 hj hk_2
      refine x_iload_n ho 0 d_RU_same_2 rfl ?_
      refine x_iconst ho d_RU_same_3 ?_
      refine x_icmp_ge (tgt := 31) ho d_RU_same_4 (by decide) (by omega) (by omega) (fun c_4 => ?_) (fun c_4 => ?_)
      ·
        refine x_iconst ho d_RU_same_31 ?_
        refine x_zret ho hr (Or.inr rfl) d_RU_same_32 ?_
        exact rT (by intro j h0 h1; exact hj j h0 (by omega))
      ·
        refine x_aload_n ho 1 d_RU_same_7 rfl ?_
        refine x_iload_n ho 0 d_RU_same_8 rfl ?_
        refine x_callV (rest := []) ho d_RU_same_9 yv_RU_imageOf g_294 g_295 g_293 (c_RU_imageOf M.2.1 D r p c i (by omega)) rfl rfl ⟨Nat.le_of_ble_eq_true rfl, Nat.le_of_ble_eq_true rfl⟩ ⟨Nat.le_of_ble_eq_true rfl, Nat.le_of_ble_eq_true rfl⟩ rfl rfl (Nat.le_of_ble_eq_true rfl) hR.1 rfl rfl hR fr_none' (x_rd (fun v_1 hv_1 => ?_))
        obtain ⟨rfl, hb_3, hI_4⟩ := hv_1
        show X _ _ _ _ _ _ _ _ _ [.ref (p i)] _
        refine x_aload_n ho 2 d_RU_same_12 rfl ?_
        refine x_iload_n ho 0 d_RU_same_13 rfl ?_
        refine x_callV (rest := [.ref (p i)]) ho d_RU_same_14 yv_RU_imageOf g_294 g_295 g_293 (c_RU_imageOf M.2.1 D r2 p2 c2 i (by omega)) rfl rfl ⟨Nat.le_of_ble_eq_true rfl, Nat.le_of_ble_eq_true rfl⟩ ⟨Nat.le_of_ble_eq_true rfl, Nat.le_of_ble_eq_true rfl⟩ rfl rfl (Nat.le_of_ble_eq_true rfl) hS.1 rfl rfl hS fr_none' (x_rd (fun v_5 hv_5 => ?_))
        obtain ⟨rfl, hb_7, hI_8⟩ := hv_5
        show X _ _ _ _ _ _ _ _ _ [.ref (p2 i), .ref (p i)] _
        refine x_callV (rest := []) ho d_RU_same_17 yv_LE_same g_335 g_336 g_334 (c_LE_same M.2.1 D (p i) 8 (c i) (p2 i) 8 (c2 i) ) rfl rfl ⟨Nat.le_of_ble_eq_true rfl, Nat.le_of_ble_eq_true rfl⟩ ⟨Nat.le_of_ble_eq_true rfl, Nat.le_of_ble_eq_true rfl⟩ rfl rfl (Nat.le_of_ble_eq_true rfl) hI_4.1 rfl rfl ⟨hI_4, hI_8⟩ fr_none' (x_rd (fun v_9 hv_9 => ?_))
        obtain rfl := hv_9
        show X _ _ _ _ _ _ _ _ _ [zV (bI ((c i) = (c2 i)))] _
        refine x_if_neB (tgt := 25) ho d_RU_same_20 (by decide) (fun c_20 => ?_) (fun c_20 => ?_)
        ·
          refine x_iinc (L' := [(2, zV (i + 1)), (0, .ref r), (1, .ref r2)]) ho 0 d_RU_same_25 rfl rfl (by decide) rfl ?_
          refine x_goto (tgt := 2) ho d_RU_same_28 (by decide) ?_
          exact ih_2 (i + 1) (by omega) (by intro j h0 h1; rcases (show j < i ∨ j = i by omega) with h | h; exact hj j h0 h; subst h; exact c_20) (by omega)
        ·
          refine x_iconst ho d_RU_same_23 ?_
          refine x_zret ho hr (Or.inl rfl) d_RU_same_24 ?_
          exact rF (by intro h; exact c_20 (h i (by omega) (by omega)))
  exact loop_2 _ 0 (by omega) (by intro j h0 h1; omega) (Nat.lt_succ_self _)
def q_RU_total (D : GG) (r : Nat) (p : Int → Nat) (c : Int → List Int) : Option Value → Heap → Prop := fun v0 H => v0 = some (zV (tot c)) ∧ (0 ≤ tot c ∧ tot c ≤ 32)
theorem yv_RU_total : Yv y_RU_total b_RU_total 3 (Option.some FieldType.int) 0 := ⟨g_386, g_55, by decide, by decide +kernel⟩
set_option maxHeartbeats 4000000 in
set_option maxRecDepth 100000 in
theorem c_RU_total (l0 : Launch) (D : GG) (r : Nat) (p : Int → Nat) (c : Int → List Int)  : Ct l0 D y_RU_total b_RU_total 3 (Option.some FieldType.int) ({ frames := 2, cells := 0, slots := 0, locals := 41 } : Room) [.ref r] (fun H => isR D H r p c) nA 0 0 (q_RU_total D r p c) := by
  refine Ct.of (L := [(0, .ref r)]) (by decide) (Nat.le_of_ble_eq_true rfl) rfl (fun M H ho hr hnm hH hpre => ?_)
  have hR := hpre
  refine x_iconst ho d_RU_total_0 ?_
  refine x_istore_n (L' := [(1, zV 0), (0, .ref r)]) ho d_RU_total_1 (by decide) rfl ?_
  refine x_iconst ho d_RU_total_2 ?_
  refine x_istore_n (L' := [(2, zV 0), (1, zV 0), (0, .ref r)]) ho d_RU_total_3 (by decide) rfl ?_
  have loop_4 : ∀ (kk : Nat) (i : Int) (t : Int) (i0 : 0 ≤ i ∧ i ≤ 4) (ht : t = totN c i.toNat), (4 - i).toNat < kk → X M ({ frames := 2, cells := 0, slots := 0, locals := 41 } : Room) 3 nA 0 0 (Qof M nA (q_RU_total D r p c) 0 0) 4 [(2, zV i), (1, zV t), (0, .ref r)] [] H := by
    intro kk
    induction kk with
    | zero => intro i t i0 ht hk; exact absurd hk (Nat.not_lt_zero _)
    | succ kk ih_4 =>
      intro i t i0 ht hk_4
      refine x_iload_n ho 0 d_RU_total_4 rfl ?_
      refine x_iconst ho d_RU_total_5 ?_
      refine x_icmp_ge (tgt := 26) ho d_RU_total_6 (by decide) (by omega) (by omega) (fun c_6 => ?_) (fun c_6 => ?_)
      ·
        refine x_iload_n ho 1 d_RU_total_26 rfl ?_
        refine x_iret ho hr d_RU_total_27 ?_
        rw [show i.toNat = 4 by omega] at ht; subst ht; exact ⟨rfl, tot_r (fun j h0 h1 => (hR.w h0 h1).2)⟩
      ·
        refine x_iload_n ho 1 d_RU_total_9 rfl ?_
        refine x_aload_n ho 2 d_RU_total_10 rfl ?_
        refine x_iload_n ho 0 d_RU_total_11 rfl ?_
        refine x_callV (rest := [zV t]) ho d_RU_total_12 yv_RU_imageOf g_294 g_295 g_293 (c_RU_imageOf M.2.1 D r p c i (by omega)) rfl rfl ⟨Nat.le_of_ble_eq_true rfl, Nat.le_of_ble_eq_true rfl⟩ ⟨Nat.le_of_ble_eq_true rfl, Nat.le_of_ble_eq_true rfl⟩ rfl rfl (Nat.le_of_ble_eq_true rfl) hR.1 rfl rfl hR fr_none' (x_rd (fun v_1 hv_1 => ?_))
        obtain ⟨rfl, hb_3, hI_4⟩ := hv_1
        show X _ _ _ _ _ _ _ _ _ [.ref (p i), zV t] _
        refine x_callV (rest := [zV t]) ho d_RU_total_15 yv_LE_length g_323 g_324 g_376 (c_LE_length M.2.1 D (p i) 8 (c i) ) rfl rfl ⟨Nat.le_of_ble_eq_true rfl, Nat.le_of_ble_eq_true rfl⟩ ⟨Nat.le_of_ble_eq_true rfl, Nat.le_of_ble_eq_true rfl⟩ rfl rfl (Nat.le_of_ble_eq_true rfl) hI_4.1 rfl rfl hI_4 fr_none' (x_rd (fun v_5 hv_5 => ?_))
        obtain rfl := hv_5
        show X _ _ _ _ _ _ _ _ _ [zV (((c i).length : Int)), zV t] _
        refine x_iadd ho d_RU_total_18 ?_
        refine x_istore_n (L' := [(1, zV (t + (((c i).length : Int)))), (2, zV i), (0, .ref r)]) ho d_RU_total_19 (by decide) rfl ?_
        refine x_iinc (L' := [(2, zV (i + 1)), (1, zV (t + (((c i).length : Int)))), (0, .ref r)]) ho 1 d_RU_total_20 rfl rfl (by decide) rfl ?_
        refine x_goto (tgt := 4) ho d_RU_total_23 (by decide) ?_
        exact ih_4 (i + 1) (t + (((c i).length : Int))) (by omega) (by rw [show (i + 1).toNat = i.toNat + 1 by omega]; unfold totN; rw [show ((i.toNat : Nat) : Int) = i by omega]; omega) (by omega)
  exact loop_4 _ 0 0 (by omega) (by rfl) (Nat.lt_succ_self _)
def q_RU_rotate (D : GG) (r : Nat) (p : Int → Nat) (c : Int → List Int) (P : Prop) : Option Value → Heap → Prop := fun v0 H => v0 = none ∧ isR D H r p (fun i => rot P (c i))
theorem yv_RU_rotate : Yv y_RU_rotate b_RU_rotate 3 (Option.none : Option FieldType) 1 := ⟨g_401, g_55, by decide, by decide +kernel⟩
set_option maxHeartbeats 4000000 in
set_option maxRecDepth 100000 in
theorem c_RU_rotate (l0 : Launch) (D : GG) (r : Nat) (p : Int → Nat) (c : Int → List Int) (P : Prop)  : Ct l0 D y_RU_rotate b_RU_rotate 3 (Option.none : Option FieldType) ({ frames := 2, cells := 0, slots := 0, locals := 82 } : Room) [.ref r, zV (bI P)] (fun H => isR D H r p c) (rA r (r + 12)) 0 0 (q_RU_rotate D r p c P) := by
  refine Ct.of (L := [(0, .ref r), (1, zV (bI P))]) (by decide) (Nat.le_of_ble_eq_true rfl) rfl (fun M H ho hr hnm hH hpre => ?_)
  have hR := hpre
  refine x_iconst ho d_RU_rotate_0 ?_
  refine x_istore_n (L' := [(2, zV 0), (0, .ref r), (1, zV (bI P))]) ho d_RU_rotate_1 (by decide) rfl ?_
  have loop_2 : ∀ (kk : Nat) (i : Int) (g : Int → List Int) (H_1 : Heap) (gR : isR D H_1 r p g) (i0 : 0 ≤ i ∧ i ≤ 4) (hg : ∀ j : Int, 0 ≤ j → j < 4 → g j = if j < i then rot P (c j) else c j), (4 - i).toNat < kk → X M ({ frames := 2, cells := 0, slots := 0, locals := 82 } : Room) 3 (rA r (r + 12)) 0 0 (Qof M (rA r (r + 12)) (q_RU_rotate D r p c P) 0 0) 2 [(2, zV i), (0, .ref r), (1, zV (bI P))] [] H_1 := by
    intro kk
    induction kk with
    | zero => intro i g H_1 gR i0 hg hk; exact absurd hk (Nat.not_lt_zero _)
    | succ kk ih_2 =>
      intro i g H_1 gR i0 hg hk_2
      refine x_iload_n ho 0 d_RU_rotate_2 rfl ?_
      refine x_iconst ho d_RU_rotate_3 ?_
      refine x_icmp_ge (tgt := 22) ho d_RU_rotate_4 (by decide) (by omega) (by omega) (fun c_4 => ?_) (fun c_4 => ?_)
      ·
        refine x_vret ho hr d_RU_rotate_22 ?_
        exact ⟨rfl, gR.c (fun j h0 h1 => by rw [hg j h0 h1, if_pos (by omega)])⟩
      ·
        refine x_aload_n ho 1 d_RU_rotate_7 rfl ?_
        refine x_iload_n ho 0 d_RU_rotate_8 rfl ?_
        refine x_callV (rest := []) ho d_RU_rotate_9 yv_RU_imageOf g_294 g_295 g_293 (c_RU_imageOf M.2.1 D r p g i (by omega)) rfl rfl ⟨Nat.le_of_ble_eq_true rfl, Nat.le_of_ble_eq_true rfl⟩ ⟨Nat.le_of_ble_eq_true rfl, Nat.le_of_ble_eq_true rfl⟩ rfl rfl (Nat.le_of_ble_eq_true rfl) gR.1 rfl rfl gR fr_none' (x_rd (fun v_2 hv_2 => ?_))
        obtain ⟨rfl, hb_4, hI_5⟩ := hv_2
        show X _ _ _ _ _ _ _ _ _ [.ref (p i)] _
        refine x_iload_n ho 2 d_RU_rotate_12 rfl ?_
        refine x_callV (rest := []) ho d_RU_rotate_13 yv_LE_rotate g_403 g_404 g_402 (c_LE_rotate M.2.1 D (p i) 8 (g i) P ) rfl rfl ⟨Nat.le_of_ble_eq_true rfl, Nat.le_of_ble_eq_true rfl⟩ ⟨Nat.le_of_ble_eq_true rfl, Nat.le_of_ble_eq_true rfl⟩ rfl rfl (Nat.le_of_ble_eq_true rfl) hI_5.1 rfl rfl hI_5 (rA_sub (by omega) (by omega)) (fun v_6 H_8 hv_6 f_7 => ?_)
        obtain ⟨rfl, hL_9⟩ := hv_6
        have r_10 : isR D H_8 r p (zU g i (rot P (g i))) := isR_set gR (by omega) (by omega) hL_9 f_7
        show X _ _ _ _ _ _ _ _ _ [] _
        refine x_iinc (L' := [(2, zV (i + 1)), (0, .ref r), (1, zV (bI P))]) ho 0 d_RU_rotate_16 rfl rfl (by decide) rfl ?_
        refine x_goto (tgt := 2) ho d_RU_rotate_19 (by decide) ?_
        exact ih_2 (i + 1) (zU g i (rot P (g i))) H_8 r_10 (by omega) (by
            intro j h0 h1
            by_cases h : j = i
            · subst h; rw [zU_s, if_pos (by omega), hg j h0 h1, if_neg (by omega)]
            · rw [zU_n _ _ h, hg j h0 h1]
              by_cases h2 : j < i
              · rw [if_pos h2, if_pos (by omega)]
              · rw [if_neg h2, if_neg (by omega)]) (by omega)
  exact loop_2 _ 0 c H hR (by omega) (by intro j h0 h1; rw [if_neg (by omega)]) (Nat.lt_succ_self _)
def q_RU_endOf (D : GG) (r : Nat) (p : Int → Nat) (c : Int → List Int) (x : Int) (P : Prop) : Option Value → Heap → Prop := fun v0 H => v0 = some (zV (ende P (c x))) ∧ (-1 ≤ ende P (c x) ∧ ende P (c x) < 4)
theorem yv_RU_endOf : Yv y_RU_endOf b_RU_endOf 4 (Option.some FieldType.int) 2 := ⟨g_397, g_55, by decide, by decide +kernel⟩
set_option maxHeartbeats 4000000 in
set_option maxRecDepth 100000 in
theorem c_RU_endOf (l0 : Launch) (D : GG) (r : Nat) (p : Int → Nat) (c : Int → List Int) (x : Int) (P : Prop) (hx : 0 ≤ x ∧ x < 4) : Ct l0 D y_RU_endOf b_RU_endOf 4 (Option.some FieldType.int) ({ frames := 2, cells := 0, slots := 0, locals := 41 } : Room) [.ref r, zV x, zV (bI P)] (fun H => isR D H r p c) nA 0 0 (q_RU_endOf D r p c x P) := by
  refine Ct.of (L := [(0, .ref r), (1, zV x), (2, zV (bI P))]) (by decide) (Nat.le_of_ble_eq_true rfl) rfl (fun M H ho hr hnm hH hpre => ?_)
  have hR := hpre
  refine x_aload_n ho 0 d_RU_endOf_0 rfl ?_
  refine x_iload_n ho 1 d_RU_endOf_1 rfl ?_
  refine x_callV (rest := []) ho d_RU_endOf_2 yv_RU_imageOf g_294 g_295 g_293 (c_RU_imageOf M.2.1 D r p c x (by omega)) rfl rfl ⟨Nat.le_of_ble_eq_true rfl, Nat.le_of_ble_eq_true rfl⟩ ⟨Nat.le_of_ble_eq_true rfl, Nat.le_of_ble_eq_true rfl⟩ rfl rfl (Nat.le_of_ble_eq_true rfl) hR.1 rfl rfl hR fr_none' (x_rd (fun v_1 hv_1 => ?_))
  obtain ⟨rfl, hb_3, hI_4⟩ := hv_1
  show X _ _ _ _ _ _ _ _ _ [.ref (p x)] _
  refine x_astore_n (L' := [(3, .ref (p x)), (0, .ref r), (1, zV x), (2, zV (bI P))]) ho d_RU_endOf_5 (by decide) rfl ?_
  refine x_aload_n ho 0 d_RU_endOf_6 rfl ?_
  refine x_iload_n ho 3 d_RU_endOf_7 rfl ?_
  refine x_if_eqB (tgt := 20) ho d_RU_endOf_8 (by decide) (fun c_8 => ?_) (fun c_8 => ?_)
  ·
    refine x_iconst ho d_RU_endOf_20 ?_
    have kw := (hR.w hx.1 hx.2)
    refine x_callV (rest := []) ho d_RU_endOf_21 yv_LE_letterAt g_343 g_344 g_377 (c_LE_letterAt M.2.1 D (p x) 8 (c x) 0 (by omega)) rfl rfl ⟨Nat.le_of_ble_eq_true rfl, Nat.le_of_ble_eq_true rfl⟩ ⟨Nat.le_of_ble_eq_true rfl, Nat.le_of_ble_eq_true rfl⟩ rfl rfl (Nat.le_of_ble_eq_true rfl) hI_4.1 rfl rfl hI_4 fr_none' (x_rd (fun v_5 hv_5 => ?_))
    obtain ⟨rfl, hr_7⟩ := hv_5
    show X _ _ _ _ _ _ _ _ _ [zV (lat (c x) 0)] _
    refine x_iret ho hr d_RU_endOf_24 ?_
    exact ⟨rI (by exact (ende_f c_8).symm), (by rw [ende_f c_8]; exact lat_r kw.1 _)⟩
  ·
    refine x_aload_n ho 0 d_RU_endOf_11 rfl ?_
    refine x_callV (rest := [.ref (p x)]) ho d_RU_endOf_12 yv_LE_length g_323 g_324 g_376 (c_LE_length M.2.1 D (p x) 8 (c x) ) rfl rfl ⟨Nat.le_of_ble_eq_true rfl, Nat.le_of_ble_eq_true rfl⟩ ⟨Nat.le_of_ble_eq_true rfl, Nat.le_of_ble_eq_true rfl⟩ rfl rfl (Nat.le_of_ble_eq_true rfl) hI_4.1 rfl rfl hI_4 fr_none' (x_rd (fun v_8 hv_8 => ?_))
    obtain rfl := hv_8
    show X _ _ _ _ _ _ _ _ _ [zV (((c x).length : Int)), .ref (p x)] _
    have kw8 := (hR.w hx.1 hx.2).2
    refine x_iconst ho d_RU_endOf_15 ?_
    refine x_isub ho d_RU_endOf_16 ?_
    refine x_goto (tgt := 21) ho d_RU_endOf_17 (by decide) ?_
    have kw := (hR.w hx.1 hx.2)
    refine x_callV (rest := []) ho d_RU_endOf_21 yv_LE_letterAt g_343 g_344 g_377 (c_LE_letterAt M.2.1 D (p x) 8 (c x) ((((c x).length : Int)) - 1) (by omega)) rfl rfl ⟨Nat.le_of_ble_eq_true rfl, Nat.le_of_ble_eq_true rfl⟩ ⟨Nat.le_of_ble_eq_true rfl, Nat.le_of_ble_eq_true rfl⟩ rfl rfl (Nat.le_of_ble_eq_true rfl) hI_4.1 rfl rfl hI_4 fr_none' (x_rd (fun v_10 hv_10 => ?_))
    obtain ⟨rfl, hr_12⟩ := hv_10
    show X _ _ _ _ _ _ _ _ _ [zV (lat (c x) ((((c x).length : Int)) - 1))] _
    refine x_iret ho hr d_RU_endOf_24 ?_
    exact ⟨rI (by exact (ende_t c_8).symm), (by rw [ende_t c_8]; exact lat_r kw.1 _)⟩
def q_RU_commonEnd (D : GG) (r : Nat) (p : Int → Nat) (c : Int → List Int) (P : Prop) : Option Value → Heap → Prop := fun v0 H => v0 = some (zV (comE P c)) ∧ (-1 ≤ comE P c ∧ comE P c < 4)
theorem yv_RU_commonEnd : Yv y_RU_commonEnd b_RU_commonEnd 4 (Option.some FieldType.int) 1 := ⟨g_394, g_55, by decide, by decide +kernel⟩
set_option maxHeartbeats 4000000 in
set_option maxRecDepth 100000 in
theorem c_RU_commonEnd (l0 : Launch) (D : GG) (r : Nat) (p : Int → Nat) (c : Int → List Int) (P : Prop)  : Ct l0 D y_RU_commonEnd b_RU_commonEnd 4 (Option.some FieldType.int) ({ frames := 3, cells := 0, slots := 0, locals := 64 } : Room) [.ref r, zV (bI P)] (fun H => isR D H r p c) nA 0 0 (q_RU_commonEnd D r p c P) := by
  refine Ct.of (L := [(0, .ref r), (1, zV (bI P))]) (by decide) (Nat.le_of_ble_eq_true rfl) rfl (fun M H ho hr hnm hH hpre => ?_)
  have hR := hpre
  refine x_aload_n ho 0 d_RU_commonEnd_0 rfl ?_
  refine x_iconst ho d_RU_commonEnd_1 ?_
  refine x_iload_n ho 1 d_RU_commonEnd_2 rfl ?_
  refine x_callV (rest := []) ho d_RU_commonEnd_3 yv_RU_endOf g_396 g_4 g_395 (c_RU_endOf M.2.1 D r p c 0 P (by omega)) rfl rfl ⟨Nat.le_of_ble_eq_true rfl, Nat.le_of_ble_eq_true rfl⟩ ⟨Nat.le_of_ble_eq_true rfl, Nat.le_of_ble_eq_true rfl⟩ rfl rfl (Nat.le_of_ble_eq_true rfl) hR.1 rfl rfl hR fr_none' (x_rd (fun v_1 hv_1 => ?_))
  obtain ⟨rfl, hr_3⟩ := hv_1
  show X _ _ _ _ _ _ _ _ _ [zV (ende P (c 0))] _
  refine x_istore_n (L' := [(2, zV (ende P (c 0))), (0, .ref r), (1, zV (bI P))]) ho d_RU_commonEnd_6 (by decide) rfl ?_
  refine x_iconst ho d_RU_commonEnd_7 ?_
  refine x_istore_n (L' := [(3, zV 1), (2, zV (ende P (c 0))), (0, .ref r), (1, zV (bI P))]) ho d_RU_commonEnd_8 (by decide) rfl ?_
  have loop_9 : ∀ (kk : Nat) (i : Int) (i0 : 1 ≤ i ∧ i ≤ 4) (hj : ∀ j : Int, 1 ≤ j → j < i → ende P (c j) = ende P (c 0)), (4 - i).toNat < kk → X M ({ frames := 3, cells := 0, slots := 0, locals := 64 } : Room) 4 nA 0 0 (Qof M nA (q_RU_commonEnd D r p c P) 0 0) 9 [(3, zV i), (2, zV (ende P (c 0))), (0, .ref r), (1, zV (bI P))] [] H := by
    intro kk
    induction kk with
    | zero => intro i i0 hj hk; exact absurd hk (Nat.not_lt_zero _)
    | succ kk ih_9 =>
      intro i i0 hj hk_9
      refine x_iload_n ho 0 d_RU_commonEnd_9 rfl ?_
      refine x_iconst ho d_RU_commonEnd_10 ?_
      refine x_icmp_ge (tgt := 32) ho d_RU_commonEnd_11 (by decide) (by omega) (by omega) (fun c_11 => ?_) (fun c_11 => ?_)
      ·
        refine x_iload_n ho 1 d_RU_commonEnd_32 rfl ?_
        refine x_iret ho hr d_RU_commonEnd_33 ?_
        have e := comE_t (fun j h0 h1 => hj j h0 (by omega))
        exact ⟨by rw [e], by rw [e]; assumption⟩
      ·
        refine x_aload_n ho 2 d_RU_commonEnd_14 rfl ?_
        refine x_iload_n ho 0 d_RU_commonEnd_15 rfl ?_
        refine x_iload_n ho 3 d_RU_commonEnd_16 rfl ?_
        refine x_callV (rest := []) ho d_RU_commonEnd_17 yv_RU_endOf g_396 g_4 g_395 (c_RU_endOf M.2.1 D r p c i P (by omega)) rfl rfl ⟨Nat.le_of_ble_eq_true rfl, Nat.le_of_ble_eq_true rfl⟩ ⟨Nat.le_of_ble_eq_true rfl, Nat.le_of_ble_eq_true rfl⟩ rfl rfl (Nat.le_of_ble_eq_true rfl) hR.1 rfl rfl hR fr_none' (x_rd (fun v_4 hv_4 => ?_))
        obtain ⟨rfl, hr_6⟩ := hv_4
        show X _ _ _ _ _ _ _ _ _ [zV (ende P (c i))] _
        refine x_iload_n ho 1 d_RU_commonEnd_20 rfl ?_
        refine x_icmp_eq (tgt := 26) ho d_RU_commonEnd_21 (by decide) (by omega) (by omega) (fun c_21 => ?_) (fun c_21 => ?_)
        ·
          refine x_iinc (L' := [(3, zV (i + 1)), (2, zV (ende P (c 0))), (0, .ref r), (1, zV (bI P))]) ho 0 d_RU_commonEnd_26 rfl rfl (by decide) rfl ?_
          refine x_goto (tgt := 9) ho d_RU_commonEnd_29 (by decide) ?_
          exact ih_9 (i + 1) (by omega) (by intro j h0 h1; rcases (show j < i ∨ j = i by omega) with h | h; exact hj j h0 h; subst h; exact c_21) (by omega)
        ·
          refine x_iconst ho d_RU_commonEnd_24 ?_
          refine x_iret ho hr d_RU_commonEnd_25 ?_
          rw [show (-1 : Int) = comE P c from (comE_f (i := i) (by omega) (by omega) c_21).symm]; exact ⟨rfl, by rw [comE_f (i := i) (by omega) (by omega) c_21]; omega⟩
  exact loop_9 _ 1 (by omega) (by intro j h0 h1; omega) (Nat.lt_succ_self _)
