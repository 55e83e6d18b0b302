def q_MW_hasLetter (D : GG) (s : Int) (x : Int) : Option Value → Heap → Prop := fun v0 H => v0 = some (zV (bI (hasB s x)))
theorem yv_MW_hasLetter : Yv y_MW_hasLetter b_MW_hasLetter 2 (Option.some FieldType.boolean) 2 := ⟨g_565, g_53, by decide, by decide +kernel⟩
set_option maxHeartbeats 4000000 in
set_option maxRecDepth 100000 in
theorem c_MW_hasLetter (l0 : Launch) (D : GG) (s : Int) (x : Int) (hs : 0 ≤ s ∧ s < 16) (hx : 0 ≤ x ∧ x < 4) : Ct l0 D y_MW_hasLetter b_MW_hasLetter 2 (Option.some FieldType.boolean) ({ frames := 0, cells := 0, slots := 0, locals := 0 } : Room) [zV s, zV x] (fun H => True) nA 0 0 (q_MW_hasLetter D s x) := by
  refine Ct.of (L := [(0, zV s), (1, zV x)]) (by decide) (Nat.le_of_ble_eq_true rfl) rfl (fun M H ho hr hnm hH hpre => ?_)
  refine x_iload_n ho 0 d_MW_hasLetter_0 rfl ?_
  refine x_iconst ho d_MW_hasLetter_1 ?_
  refine x_iload_n ho 1 d_MW_hasLetter_2 rfl ?_
  refine x_shl1 ho d_MW_hasLetter_3 hx ?_
  refine x_and16 ho d_MW_hasLetter_4 hs (sh_16 hx.1 hx.2) ?_
  have h16 := andI_16 hs (sh_16 hx.1 hx.2)
  refine x_if_eq (tgt := 12) ho d_MW_hasLetter_5 (by decide) (by omega) (fun c_5 => ?_) (fun c_5 => ?_)
  ·
    refine x_iconst ho d_MW_hasLetter_12 ?_
    refine x_zret ho hr (Or.inl rfl) d_MW_hasLetter_13 ?_
    exact rF (by exact fun q => q c_5)
  ·
    refine x_iconst ho d_MW_hasLetter_8 ?_
    refine x_goto (tgt := 13) ho d_MW_hasLetter_9 (by decide) ?_
    refine x_zret ho hr (Or.inr rfl) d_MW_hasLetter_13 ?_
    exact rT (by exact c_5)
def q_RU_addImage (D : GG) (r : Nat) (p : Int → Nat) (c : Int → List Int) (o : Nat) (m : Nat) (L : List Int) (q : Nat) (n : Nat) (K : List Int) : Option Value → Heap → Prop := fun v0 H => v0 = some (zV (bI (((K ++ imW c L).length : Int) ≤ n))) ∧ isR D H r p c ∧ isL D H o m L ∧ isL D H q n (tk (K ++ imW c L) n)
theorem yv_RU_addImage : Yv y_RU_addImage b_RU_addImage 4 (Option.some FieldType.boolean) 2 := ⟨g_375, g_55, by decide, by decide +kernel⟩
set_option maxHeartbeats 4000000 in
set_option maxRecDepth 100000 in
theorem c_RU_addImage (l0 : Launch) (D : GG) (r : Nat) (p : Int → Nat) (c : Int → List Int) (o : Nat) (m : Nat) (L : List Int) (q : Nat) (n : Nat) (K : List Int) (h1 : o + 2 ≤ q ∨ q + 2 ≤ o) (h2 : r + 12 ≤ q ∨ q + 2 ≤ r) : Ct l0 D y_RU_addImage b_RU_addImage 4 (Option.some FieldType.boolean) ({ frames := 3, cells := 0, slots := 0, locals := 63 } : Room) [.ref r, .ref o, .ref q] (fun H => isR D H r p c ∧ isL D H o m L ∧ isL D H q n K) (rA q (q + 2)) 0 0 (q_RU_addImage D r p c o m L q n K) := by
  refine Ct.of (L := [(0, .ref r), (1, .ref o), (2, .ref q)]) (by decide) (Nat.le_of_ble_eq_true rfl) rfl (fun M H ho hr hnm hH hpre => ?_)
  obtain ⟨hR, hL, hK⟩ := hpre
  have h_w := hL.w
  have h_n := hL.b
  have h_c := hR.wc
  refine x_iconst ho d_RU_addImage_0 ?_
  refine x_istore_n (L' := [(3, zV 0), (0, .ref r), (1, .ref o), (2, .ref q)]) ho d_RU_addImage_1 (by decide) rfl ?_
  have loop_2 : ∀ (kk : Nat) (i : Int) (H_1 : Heap) (gR : isR D H_1 r p c) (gL : isL D H_1 o m L) (gK : isL D H_1 q n (K ++ imW c (tk L i))) (i0 : 0 ≤ i ∧ i ≤ (L.length : Int)) (hle : ((K ++ imW c (tk L i)).length : Int) ≤ n), ((L.length : Int) - i).toNat < kk → X M ({ frames := 3, cells := 0, slots := 0, locals := 63 } : Room) 4 (rA q (q + 2)) 0 0 (Qof M (rA q (q + 2)) (q_RU_addImage D r p c o m L q n K) 0 0) 2 [(3, zV i), (0, .ref r), (1, .ref o), (2, .ref q)] [] H_1 := by
    intro kk
    induction kk with
    | zero => intro i H_1 gR gL gK i0 hle hk; exact absurd hk (Nat.not_lt_zero _)
    | succ kk ih_2 =>
      intro i H_1 gR gL gK i0 hle hk_2
      refine x_iload_n ho 0 d_RU_addImage_2 rfl ?_
      refine x_aload_n ho 2 d_RU_addImage_3 rfl ?_
      refine x_callV (rest := [zV i]) ho d_RU_addImage_4 yv_LE_length g_323 g_324 g_376 (c_LE_length M.2.1 D o m L ) rfl rfl ⟨Nat.le_of_ble_eq_true rfl, Nat.le_of_ble_eq_true rfl⟩ ⟨Nat.le_of_ble_eq_true rfl, Nat.le_of_ble_eq_true rfl⟩ rfl rfl (Nat.le_of_ble_eq_true rfl) gL.1 rfl rfl gL fr_none' (x_rd (fun v_2 hv_2 => ?_))
      obtain rfl := hv_2
      show X _ _ _ _ _ _ _ _ _ [zV ((L.length : Int)), zV i] _
      refine x_icmp_ge (tgt := 34) ho d_RU_addImage_7 (by decide) (by omega) (by omega) (fun c_7 => ?_) (fun c_7 => ?_)
      ·
        refine x_iconst ho d_RU_addImage_34 ?_
        refine x_zret ho hr (Or.inr rfl) d_RU_addImage_35 ?_
        rw [tk_all (by omega)] at gK hle
        exact ⟨rT hle, gR, gL, by rw [tk_all hle]; exact gK⟩
      ·
        refine x_aload_n ho 3 d_RU_addImage_10 rfl ?_
        refine x_aload_n ho 1 d_RU_addImage_11 rfl ?_
        refine x_aload_n ho 2 d_RU_addImage_12 rfl ?_
        refine x_iload_n ho 0 d_RU_addImage_13 rfl ?_
        refine x_callV (rest := [.ref r, .ref q]) ho d_RU_addImage_14 yv_LE_letterAt g_343 g_344 g_377 (c_LE_letterAt M.2.1 D o m L i (by omega)) rfl rfl ⟨Nat.le_of_ble_eq_true rfl, Nat.le_of_ble_eq_true rfl⟩ ⟨Nat.le_of_ble_eq_true rfl, Nat.le_of_ble_eq_true rfl⟩ rfl rfl (Nat.le_of_ble_eq_true rfl) gL.1 rfl rfl gL fr_none' (x_rd (fun v_4 hv_4 => ?_))
        obtain ⟨rfl, hr_6⟩ := hv_4
        show X _ _ _ _ _ _ _ _ _ [zV (lat L i), .ref r, .ref q] _
        refine x_eqI (b := gA L i) (by exact lat_in (by omega) (by omega)) ?_
        have hg := gA_r h_w i
        refine x_callV (rest := [.ref q]) ho d_RU_addImage_17 yv_RU_imageOf g_294 g_295 g_293 (c_RU_imageOf M.2.1 D r p c (gA L i) (by omega)) rfl rfl ⟨Nat.le_of_ble_eq_true rfl, Nat.le_of_ble_eq_true rfl⟩ ⟨Nat.le_of_ble_eq_true rfl, Nat.le_of_ble_eq_true rfl⟩ rfl rfl (Nat.le_of_ble_eq_true rfl) gR.1 rfl rfl gR fr_none' (x_rd (fun v_7 hv_7 => ?_))
        obtain ⟨rfl, hb_9, hI_10⟩ := hv_7
        show X _ _ _ _ _ _ _ _ _ [.ref (p (gA L i)), .ref q] _
        refine x_callV (rest := []) ho d_RU_addImage_20 yv_LE_addAll g_379 g_380 g_378 (c_LE_addAll M.2.1 D q n (K ++ imW c (tk L i)) (p (gA L i)) 8 (c (gA L i)) (by omega)) rfl rfl ⟨Nat.le_of_ble_eq_true rfl, Nat.le_of_ble_eq_true rfl⟩ ⟨Nat.le_of_ble_eq_true rfl, Nat.le_of_ble_eq_true rfl⟩ rfl rfl (Nat.le_of_ble_eq_true rfl) gK.1 rfl rfl ⟨gK, hI_10⟩ (rA_sub (by omega) (by omega)) (fun v_11 H_13 hv_11 f_12 => ?_)
        have k_14 := gR.kept (fun q g1 g2 => f_12.2 q (by have := gR.lt; omega) (rA_no (by omega)))
        have k_15 := gL.kept (fun q g1 g2 => f_12.2 q (by have := gL.lt; omega) (rA_no (by omega)))
        obtain ⟨rfl, hL_16, hK_17⟩ := hv_11
        show X _ _ _ _ _ _ _ _ _ [zV (bI (((K ++ imW c (tk L i)).length : Int) + ((c (gA L i)).length : Int) ≤ n))] _
        refine x_if_neB (tgt := 28) ho d_RU_addImage_23 (by decide) (fun c_23 => ?_) (fun c_23 => ?_)
        ·
          refine x_iinc (L' := [(3, zV (i + 1)), (0, .ref r), (1, .ref o), (2, .ref q)]) ho 0 d_RU_addImage_28 rfl rfl (by decide) rfl ?_
          refine x_goto (tgt := 2) ho d_RU_addImage_31 (by decide) ?_
          exact ih_2 (i + 1) H_13 k_14 k_15 (by rw [tk_succ (by omega) (by omega), imW_snoc, ← List.append_assoc]; rw [tk_all (by rw [app_len]; exact c_23)] at hL_16; exact hL_16) (by omega) (by rw [tk_succ (by omega) (by omega), imW_snoc, ← List.append_assoc, app_len]; exact c_23) (by omega)
        ·
          refine x_iconst ho d_RU_addImage_26 ?_
          refine x_zret ho hr (Or.inl rfl) d_RU_addImage_27 ?_
          obtain ⟨B, hB⟩ := imW_split c L (i + 1)
          have e1 : imW c (tk L (i + 1)) = imW c (tk L i) ++ c (gA L i) := by rw [tk_succ (by omega) (by omega), imW_snoc]
          have e2 : K ++ imW c L = K ++ imW c (tk L i) ++ c (gA L i) ++ B := by rw [hB, e1]; simp only [List.append_assoc]
          have e3 := app_len (K ++ imW c (tk L i)) (c (gA L i))
          exact ⟨rF (by rw [e2, app_len]; omega), k_14, k_15, by rw [e2, tk_pre (by omega)]; exact hL_16⟩
  exact loop_2 _ 0 H hR hL (by rw [tk_0]; show isL D H q n (K ++ []); rw [List.append_nil]; exact hK) (by omega) (by have := hK.b; rw [tk_0]; show ((K ++ []).length : Int) ≤ n; rw [List.append_nil]; omega) (Nat.lt_succ_self _)
def q_RU_becomeSquareOf (D : GG) (r : Nat) (p : Int → Nat) (c : Int → List Int) (r2 : Nat) (p2 : Int → Nat) (c2 : Int → List Int) : Option Value → Heap → Prop := fun v0 H => (v0 = some (zV 1) ∧ (∀ i : Int, 0 ≤ i → i < 4 → ((imW c2 (c2 i)).length : Int) ≤ 8) ∧ isR D H r p (fun i => imW c2 (c2 i)) ∧ isR D H r2 p2 c2) ∨ (∃ (g : Int → List Int), v0 = some (zV 0) ∧ (¬ ∀ i : Int, 0 ≤ i → i < 4 → ((imW c2 (c2 i)).length : Int) ≤ 8) ∧ isR D H r p g ∧ isR D H r2 p2 c2)
theorem yv_RU_becomeSquareOf : Yv y_RU_becomeSquareOf b_RU_becomeSquareOf 4 (Option.some FieldType.boolean) 1 := ⟨g_370, g_55, by decide, by decide +kernel⟩
set_option maxHeartbeats 4000000 in
set_option maxRecDepth 100000 in
theorem c_RU_becomeSquareOf (l0 : Launch) (D : GG) (r : Nat) (p : Int → Nat) (c : Int → List Int) (r2 : Nat) (p2 : Int → Nat) (c2 : Int → List Int) (hd : r + 12 ≤ r2 ∨ r2 + 12 ≤ r) : Ct l0 D y_RU_becomeSquareOf b_RU_becomeSquareOf 4 (Option.some FieldType.boolean) ({ frames := 4, cells := 0, slots := 0, locals := 86 } : Room) [.ref r, .ref r2] (fun H => isR D H r p c ∧ isR D H r2 p2 c2) (rA r (r + 12)) 0 0 (q_RU_becomeSquareOf D r p c r2 p2 c2) := by
  refine Ct.of (L := [(0, .ref r), (1, .ref r2)]) (by decide) (Nat.le_of_ble_eq_true rfl) rfl (fun M H ho hr hnm hH hpre => ?_)
  obtain ⟨hR, hS⟩ := hpre
  refine x_iconst ho d_RU_becomeSquareOf_0 ?_
  refine x_istore_n (L' := [(2, zV 0), (0, .ref r), (1, .ref r2)]) ho d_RU_becomeSquareOf_1 (by decide) rfl ?_
  have loop_2 : ∀ (kk : Nat) (i : Int) (g : Int → List Int) (H_1 : Heap) (gR : isR D H_1 r p g) (gS : isR D H_1 r2 p2 c2) (i0 : 0 ≤ i ∧ i ≤ 4) (hg : ∀ j : Int, 0 ≤ j → j < i → g j = imW c2 (c2 j) ∧ ((imW c2 (c2 j)).length : Int) ≤ 8), (4 - i).toNat < kk → X M ({ frames := 4, cells := 0, slots := 0, locals := 86 } : Room) 4 (rA r (r + 12)) 0 0 (Qof M (rA r (r + 12)) (q_RU_becomeSquareOf D r p c r2 p2 c2) 0 0) 2 [(2, zV i), (0, .ref r), (1, .ref r2)] [] H_1 := by
    intro kk
    induction kk with
    | zero => intro i g H_1 gR gS i0 hg hk; exact absurd hk (Nat.not_lt_zero _)
    | succ kk ih_2 =>
      intro i g H_1 gR gS i0 hg hk_2
      refine x_iload_n ho 0 d_RU_becomeSquareOf_2 rfl ?_
      refine x_iconst ho d_RU_becomeSquareOf_3 ?_
      refine x_icmp_ge (tgt := 38) ho d_RU_becomeSquareOf_4 (by decide) (by omega) (by omega) (fun c_4 => ?_) (fun c_4 => ?_)
      ·
        refine x_iconst ho d_RU_becomeSquareOf_38 ?_
        refine x_zret ho hr (Or.inr rfl) d_RU_becomeSquareOf_39 ?_
        exact Or.inl ⟨rfl, fun j h0 h1 => (hg j h0 (by omega)).2, gR.c (fun j h0 h1 => (hg j h0 (by omega)).1), gS⟩
      ·
        refine x_aload_n ho 1 d_RU_becomeSquareOf_7 rfl ?_
        refine x_iload_n ho 0 d_RU_becomeSquareOf_8 rfl ?_
        refine x_callV (rest := []) ho d_RU_becomeSquareOf_9 yv_RU_imageOf g_294 g_295 g_293 (c_RU_imageOf M.2.1 D r p g i (by omega)) rfl rfl ⟨Nat.le_of_ble_eq_true rfl, Nat.le_of_ble_eq_true rfl⟩ ⟨Nat.le_of_ble_eq_true rfl, Nat.le_of_ble_eq_true rfl⟩ rfl rfl (Nat.le_of_ble_eq_true rfl) gR.1 rfl rfl gR fr_none' (x_rd (fun v_2 hv_2 => ?_))
        obtain ⟨rfl, hb_4, hI_5⟩ := hv_2
        show X _ _ _ _ _ _ _ _ _ [.ref (p i)] _
        refine x_astore_n (L' := [(3, .ref (p i)), (2, zV i), (0, .ref r), (1, .ref r2)]) ho d_RU_becomeSquareOf_12 (by decide) rfl ?_
        refine x_aload_n ho 0 d_RU_becomeSquareOf_13 rfl ?_
        refine x_callV (rest := []) ho d_RU_becomeSquareOf_14 yv_LE_clear g_316 g_317 g_371 (c_LE_clear M.2.1 D (p i) 8 (g i) ) rfl rfl ⟨Nat.le_of_ble_eq_true rfl, Nat.le_of_ble_eq_true rfl⟩ ⟨Nat.le_of_ble_eq_true rfl, Nat.le_of_ble_eq_true rfl⟩ rfl rfl (Nat.le_of_ble_eq_true rfl) hI_5.1 rfl rfl hI_5 (rA_sub (by omega) (by omega)) (fun v_6 H_8 hv_6 f_7 => ?_)
        have k_9 := gS.kept (fun q g1 g2 => f_7.2 q (by have := gS.lt; omega) (rA_no (by omega)))
        obtain ⟨rfl, hL_10⟩ := hv_6
        have r_11 : isR D H_8 r p (zU g i []) := isR_set gR (by omega) (by omega) hL_10 f_7
        show X _ _ _ _ _ _ _ _ _ [] _
        have hI_12 : isL D H_8 (p i) 8 ([]) := (by have := (r_11).im (i := i) (by omega) (by omega); rw [zU_s] at this; exact this)
        refine x_aload_n ho 3 d_RU_becomeSquareOf_17 rfl ?_
        refine x_aload_n ho 3 d_RU_becomeSquareOf_18 rfl ?_
        refine x_iload_n ho 1 d_RU_becomeSquareOf_19 rfl ?_
        refine x_callV (rest := [.ref r2]) ho d_RU_becomeSquareOf_20 yv_RU_imageOf g_294 g_295 g_293 (c_RU_imageOf M.2.1 D r2 p2 c2 i (by omega)) rfl rfl ⟨Nat.le_of_ble_eq_true rfl, Nat.le_of_ble_eq_true rfl⟩ ⟨Nat.le_of_ble_eq_true rfl, Nat.le_of_ble_eq_true rfl⟩ rfl rfl (Nat.le_of_ble_eq_true rfl) k_9.1 rfl rfl k_9 fr_none' (x_rd (fun v_13 hv_13 => ?_))
        obtain ⟨rfl, hb_15, hI_16⟩ := hv_13
        show X _ _ _ _ _ _ _ _ _ [.ref (p2 i), .ref r2] _
        refine x_aload_n ho 0 d_RU_becomeSquareOf_23 rfl ?_
        refine x_callV (rest := []) ho d_RU_becomeSquareOf_24 yv_RU_addImage g_373 g_374 g_372 (c_RU_addImage M.2.1 D r2 p2 c2 (p2 i) 8 (c2 i) (p i) 8 ([]) (by omega) (by omega)) rfl rfl ⟨Nat.le_of_ble_eq_true rfl, Nat.le_of_ble_eq_true rfl⟩ ⟨Nat.le_of_ble_eq_true rfl, Nat.le_of_ble_eq_true rfl⟩ rfl rfl (Nat.le_of_ble_eq_true rfl) k_9.1 rfl rfl ⟨k_9, hI_16, hI_12⟩ (rA_sub (by omega) (by omega)) (fun v_17 H_19 hv_17 f_18 => ?_)
        obtain ⟨rfl, hR_20, hL_21, hK_22⟩ := hv_17
        have r_23 : isR D H_19 r p (zU (zU g i []) i (tk ([] ++ imW c2 (c2 i)) 8)) := isR_set r_11 (by omega) (by omega) hK_22 f_18
        show X _ _ _ _ _ _ _ _ _ [zV (bI (((([]) ++ imW c2 (c2 i)).length : Int) ≤ 8))] _
        refine x_if_neB (tgt := 32) ho d_RU_becomeSquareOf_27 (by decide) (fun c_27 => ?_) (fun c_27 => ?_)
        ·
          refine x_iinc (L' := [(2, zV (i + 1)), (3, .ref (p i)), (0, .ref r), (1, .ref r2)]) ho 1 d_RU_becomeSquareOf_32 rfl rfl (by decide) rfl ?_
          refine x_goto (tgt := 2) ho d_RU_becomeSquareOf_35 (by decide) ?_
          refine x_sub (L' := [(2, zV (i + 1)), (0, .ref r), (1, .ref r2)]) [0, 2, 3] rfl ?_
          exact ih_2 (i + 1) (zU (zU g i []) i (tk ([] ++ imW c2 (c2 i)) 8)) H_19 r_23 hR_20 (by omega) (by
              intro j h0 h1
              by_cases h : j = i
              · subst h; rw [zU_s]; exact ⟨tk_all c_27, c_27⟩
              · rw [zU_n _ _ h, zU_n _ _ h]; exact hg j h0 (by omega)) (by omega)
        ·
          refine x_iconst ho d_RU_becomeSquareOf_30 ?_
          refine x_zret ho hr (Or.inl rfl) d_RU_becomeSquareOf_31 ?_
          exact Or.inr ⟨_, rfl, fun q => c_27 (q i (by omega) (by omega)), r_23, hR_20⟩
  exact loop_2 _ 0 c H hR hS (by omega) (by intro j h0 h1; omega) (Nat.lt_succ_self _)
def q_RU_ledToFrom (D : GG) (r : Nat) (p : Int → Nat) (c : Int → List Int) (s : Int) : Option Value → Heap → Prop := fun v0 H => v0 = some (zV (led c s)) ∧ (0 ≤ led c s ∧ led c s < 16)
theorem yv_RU_ledToFrom : Yv y_RU_ledToFrom b_RU_ledToFrom 4 (Option.some FieldType.int) 1 := ⟨g_563, g_55, by decide, by decide +kernel⟩
set_option maxHeartbeats 4000000 in
set_option maxRecDepth 100000 in
theorem c_RU_ledToFrom (l0 : Launch) (D : GG) (r : Nat) (p : Int → Nat) (c : Int → List Int) (s : Int) (hs : 0 ≤ s ∧ s < 16) : Ct l0 D y_RU_ledToFrom b_RU_ledToFrom 4 (Option.some FieldType.int) ({ frames := 2, cells := 0, slots := 0, locals := 43 } : Room) [.ref r, zV s] (fun H => isR D H r p c) nA 0 0 (q_RU_ledToFrom D r p c s) := by
  refine Ct.of (L := [(0, .ref r), (1, zV s)]) (by decide) (Nat.le_of_ble_eq_true rfl) rfl (fun M H ho hr hnm hH hpre => ?_)
  have hR := hpre
  have h_c := hR.wc
  refine x_iconst ho d_RU_ledToFrom_0 ?_
  refine x_istore_n (L' := [(2, zV 0), (0, .ref r), (1, zV s)]) ho d_RU_ledToFrom_1 (by decide) rfl ?_
  refine x_iconst ho d_RU_ledToFrom_2 ?_
  refine x_istore_n (L' := [(3, zV 0), (2, zV 0), (0, .ref r), (1, zV s)]) ho d_RU_ledToFrom_3 (by decide) rfl ?_
  have loop_4 : ∀ (kk : Nat) (i : Int) (t : Int) (i0 : 0 ≤ i ∧ i ≤ 4) (ht : t = ledN c s i.toNat), (4 - i).toNat < kk → X M ({ frames := 2, cells := 0, slots := 0, locals := 43 } : Room) 4 nA 0 0 (Qof M nA (q_RU_ledToFrom D r p c s) 0 0) 4 [(3, zV i), (2, zV t), (0, .ref r), (1, zV s)] [] H := by
    intro kk
    induction kk with
    | zero => intro i t i0 ht hk; exact absurd hk (Nat.not_lt_zero _)
    | succ kk ih_4 =>
      intro i t i0 ht hk_4
      refine x_iload_n ho 0 d_RU_ledToFrom_4 rfl ?_
      refine x_iconst ho d_RU_ledToFrom_5 ?_
      refine x_icmp_ge (tgt := 34) ho d_RU_ledToFrom_6 (by decide) (by omega) (by omega) (fun c_6 => ?_) (fun c_6 => ?_)
      ·
        refine x_iload_n ho 1 d_RU_ledToFrom_34 rfl ?_
        refine x_iret ho hr d_RU_ledToFrom_35 ?_
        rw [show i.toNat = 4 by omega] at ht; subst ht; exact ⟨rfl, led_16 h_c s⟩
      ·
        refine x_iload_n ho 3 d_RU_ledToFrom_9 rfl ?_
        refine x_iload_n ho 0 d_RU_ledToFrom_10 rfl ?_
        refine x_callSN (host := "MorphWords") (rest := []) ho d_RU_ledToFrom_11 yv_MW_hasLetter g_564 (List.mem_of_getElem? (i := 9) rfl) (c_MW_hasLetter M.2.1 D s i (by omega) (by omega)) rfl rfl ⟨Nat.le_of_ble_eq_true rfl, Nat.le_of_ble_eq_true rfl⟩ ⟨Nat.le_of_ble_eq_true rfl, Nat.le_of_ble_eq_true rfl⟩ rfl rfl (Nat.le_of_ble_eq_true rfl) trivial fr_none' (x_rd (fun v_1 hv_1 => ?_))
        obtain rfl := hv_1
        show X _ _ _ _ _ _ _ _ _ [zV (bI (hasB s i))] _
        refine x_if_eqB (tgt := 28) ho d_RU_ledToFrom_14 (by decide) (fun c_14 => ?_) (fun c_14 => ?_)
        ·
          refine x_iinc (L' := [(3, zV (i + 1)), (2, zV t), (0, .ref r), (1, zV s)]) ho 0 d_RU_ledToFrom_28 rfl rfl (by decide) rfl ?_
          refine x_goto (tgt := 4) ho d_RU_ledToFrom_31 (by decide) ?_
          exact ih_4 (i + 1) t (by omega) (by rw [show (i + 1).toNat = i.toNat + 1 by omega]; unfold ledN; rw [show ((i.toNat : Nat) : Int) = i by omega, ← ht]; first | rw [if_pos (Classical.not_not.mp c_14)] | rw [if_neg c_14]) (by omega)
        ·
          refine x_iload_n ho 1 d_RU_ledToFrom_17 rfl ?_
          refine x_aload_n ho 2 d_RU_ledToFrom_18 rfl ?_
          refine x_iload_n ho 0 d_RU_ledToFrom_19 rfl ?_
          refine x_callV (rest := [zV t]) ho d_RU_ledToFrom_20 yv_RU_imageOf g_294 g_295 g_293 (c_RU_imageOf M.2.1 D r p c i (by omega)) rfl rfl ⟨Nat.le_of_ble_eq_true rfl, Nat.le_of_ble_eq_true rfl⟩ ⟨Nat.le_of_ble_eq_true rfl, Nat.le_of_ble_eq_true rfl⟩ rfl rfl (Nat.le_of_ble_eq_true rfl) hR.1 rfl rfl hR fr_none' (x_rd (fun v_3 hv_3 => ?_))
          obtain ⟨rfl, hb_5, hI_6⟩ := hv_3
          show X _ _ _ _ _ _ _ _ _ [.ref (p i), zV t] _
          refine x_callV (rest := [zV t]) ho d_RU_ledToFrom_23 yv_LE_bits g_554 g_555 g_566 (c_LE_bits M.2.1 D (p i) 8 (c i) ) rfl rfl ⟨Nat.le_of_ble_eq_true rfl, Nat.le_of_ble_eq_true rfl⟩ ⟨Nat.le_of_ble_eq_true rfl, Nat.le_of_ble_eq_true rfl⟩ rfl rfl (Nat.le_of_ble_eq_true rfl) hI_6.1 rfl rfl hI_6 fr_none' (x_rd (fun v_7 hv_7 => ?_))
          obtain ⟨rfl, hr_9⟩ := hv_7
          show X _ _ _ _ _ _ _ _ _ [zV (bitL (c i)), zV t] _
          have ht16 := ledN_16 h_c s i.toNat (by omega)
          rw [← ht] at ht16
          have hb16 := bitL_16 (h_c i (by omega) (by omega))
          refine x_or16 ho d_RU_ledToFrom_26 ht16 hb16 ?_
          refine x_istore_n (L' := [(2, zV (orI t (bitL (c i)))), (3, zV i), (0, .ref r), (1, zV s)]) ho d_RU_ledToFrom_27 (by decide) rfl ?_
          refine x_iinc (L' := [(3, zV (i + 1)), (2, zV (orI t (bitL (c i)))), (0, .ref r), (1, zV s)]) ho 1 d_RU_ledToFrom_28 rfl rfl (by decide) rfl ?_
          refine x_goto (tgt := 4) ho d_RU_ledToFrom_31 (by decide) ?_
          exact ih_4 (i + 1) (orI t (bitL (c i))) (by omega) (by rw [show (i + 1).toNat = i.toNat + 1 by omega]; unfold ledN; rw [show ((i.toNat : Nat) : Int) = i by omega, ← ht]; first | rw [if_pos (Classical.not_not.mp c_14)] | rw [if_neg c_14]) (by omega)
  exact loop_4 _ 0 0 (by omega) (by rfl) (Nat.lt_succ_self _)
def q_RU_reachedFrom (D : GG) (r : Nat) (p : Int → Nat) (c : Int → List Int) (x : Int) : Option Value → Heap → Prop := fun v0 H => v0 = some (zV (rea c x)) ∧ (0 ≤ rea c x ∧ rea c x < 16)
theorem yv_RU_reachedFrom : Yv y_RU_reachedFrom b_RU_reachedFrom 4 (Option.some FieldType.int) 1 := ⟨g_560, g_55, by decide, by decide +kernel⟩
set_option maxHeartbeats 4000000 in
set_option maxRecDepth 100000 in
theorem c_RU_reachedFrom (l0 : Launch) (D : GG) (r : Nat) (p : Int → Nat) (c : Int → List Int) (x : Int) (hx : 0 ≤ x ∧ x < 4) : Ct l0 D y_RU_reachedFrom b_RU_reachedFrom 4 (Option.some FieldType.int) ({ frames := 3, cells := 0, slots := 0, locals := 66 } : Room) [.ref r, zV x] (fun H => isR D H r p c) nA 0 0 (q_RU_reachedFrom D r p c x) := by
  refine Ct.of (L := [(0, .ref r), (1, zV x)]) (by decide) (Nat.le_of_ble_eq_true rfl) rfl (fun M H ho hr hnm hH hpre => ?_)
  have hR := hpre
  have h_c := hR.wc
  refine x_iconst ho d_RU_reachedFrom_0 ?_
  refine x_iload_n ho 1 d_RU_reachedFrom_1 rfl ?_
  refine x_shl1 ho d_RU_reachedFrom_2 hx ?_
  refine x_istore_n (L' := [(2, zV (sh x)), (0, .ref r), (1, zV x)]) ho d_RU_reachedFrom_3 (by decide) rfl ?_
  refine x_iconst ho d_RU_reachedFrom_4 ?_
  refine x_istore_n (L' := [(3, zV 0), (2, zV (sh x)), (0, .ref r), (1, zV x)]) ho d_RU_reachedFrom_5 (by decide) rfl ?_
  have loop_6 : ∀ (kk : Nat) (i : Int) (t : Int) (i0 : 0 ≤ i ∧ i ≤ 4) (ht : t = reN c (sh x) i.toNat) (h16 : 0 ≤ t ∧ t < 16), (4 - i).toNat < kk → X M ({ frames := 3, cells := 0, slots := 0, locals := 66 } : Room) 4 nA 0 0 (Qof M nA (q_RU_reachedFrom D r p c x) 0 0) 6 [(3, zV i), (2, zV t), (0, .ref r), (1, zV x)] [] H := by
    intro kk
    induction kk with
    | zero => intro i t i0 ht h16 hk; exact absurd hk (Nat.not_lt_zero _)
    | succ kk ih_6 =>
      intro i t i0 ht h16 hk_6
      refine x_iload_n ho 0 d_RU_reachedFrom_6 rfl ?_
      refine x_iconst ho d_RU_reachedFrom_7 ?_
      refine x_icmp_ge (tgt := 25) ho d_RU_reachedFrom_8 (by decide) (by omega) (by omega) (fun c_8 => ?_) (fun c_8 => ?_)
      ·
        refine x_iload_n ho 1 d_RU_reachedFrom_25 rfl ?_
        refine x_iret ho hr d_RU_reachedFrom_26 ?_
        rw [show i.toNat = 4 by omega] at ht; subst ht; exact ⟨rfl, h16⟩
      ·
        refine x_iload_n ho 1 d_RU_reachedFrom_11 rfl ?_
        refine x_aload_n ho 2 d_RU_reachedFrom_12 rfl ?_
        refine x_iload_n ho 1 d_RU_reachedFrom_13 rfl ?_
        refine x_callV (rest := [zV t]) ho d_RU_reachedFrom_14 yv_RU_ledToFrom g_562 g_9 g_561 (c_RU_ledToFrom M.2.1 D r p c t (by omega)) rfl rfl ⟨Nat.le_of_ble_eq_true rfl, Nat.le_of_ble_eq_true rfl⟩ ⟨Nat.le_of_ble_eq_true rfl, Nat.le_of_ble_eq_true rfl⟩ rfl rfl (Nat.le_of_ble_eq_true rfl) hR.1 rfl rfl hR fr_none' (x_rd (fun v_1 hv_1 => ?_))
        obtain ⟨rfl, hr_3⟩ := hv_1
        show X _ _ _ _ _ _ _ _ _ [zV (led c t), zV t] _
        have hl16 := led_16 h_c t
        refine x_or16 ho d_RU_reachedFrom_17 h16 hl16 ?_
        refine x_istore_n (L' := [(2, zV (orI t (led c t))), (3, zV i), (0, .ref r), (1, zV x)]) ho d_RU_reachedFrom_18 (by decide) rfl ?_
        refine x_iinc (L' := [(3, zV (i + 1)), (2, zV (orI t (led c t))), (0, .ref r), (1, zV x)]) ho 1 d_RU_reachedFrom_19 rfl rfl (by decide) rfl ?_
        refine x_goto (tgt := 6) ho d_RU_reachedFrom_22 (by decide) ?_
        exact ih_6 (i + 1) (orI t (led c t)) (by omega) (by rw [show (i + 1).toNat = i.toNat + 1 by omega]; unfold reN; rw [← ht]) (by exact orI_16 h16 (led_16 h_c t)) (by omega)
  exact loop_6 _ 0 (sh x) (by omega) (by rfl) (by exact sh_16 hx.1 hx.2) (Nat.lt_succ_self _)
def q_RU_lettersBehind (D : GG) (r : Nat) (p : Int → Nat) (c : Int → List Int) (x : Int) (k : Int) : Option Value → Heap → Prop := fun v0 H => v0 = some (zV (lbN c (sh x) k.toNat)) ∧ (0 ≤ lbN c (sh x) k.toNat ∧ lbN c (sh x) k.toNat < 16)
theorem yv_RU_lettersBehind : Yv y_RU_lettersBehind b_RU_lettersBehind 5 (Option.some FieldType.int) 2 := ⟨g_606, g_55, by decide, by decide +kernel⟩
set_option maxHeartbeats 4000000 in
set_option maxRecDepth 100000 in
theorem c_RU_lettersBehind (l0 : Launch) (D : GG) (r : Nat) (p : Int → Nat) (c : Int → List Int) (x : Int) (k : Int) (hx : 0 ≤ x ∧ x < 4) (hk : 0 ≤ k ∧ k ≤ 1000) : Ct l0 D y_RU_lettersBehind b_RU_lettersBehind 5 (Option.some FieldType.int) ({ frames := 3, cells := 0, slots := 0, locals := 66 } : Room) [.ref r, zV x, zV k] (fun H => isR D H r p c) nA 0 0 (q_RU_lettersBehind D r p c x k) := by
  refine Ct.of (L := [(0, .ref r), (1, zV x), (2, zV k)]) (by decide) (Nat.le_of_ble_eq_true rfl) rfl (fun M H ho hr hnm hH hpre => ?_)
  have hR := hpre
  have h_c := hR.wc
  refine x_iconst ho d_RU_lettersBehind_0 ?_
  refine x_iload_n ho 1 d_RU_lettersBehind_1 rfl ?_
  refine x_shl1 ho d_RU_lettersBehind_2 hx ?_
  refine x_istore_n (L' := [(3, zV (sh x)), (0, .ref r), (1, zV x), (2, zV k)]) ho d_RU_lettersBehind_3 (by decide) rfl ?_
  refine x_iconst ho d_RU_lettersBehind_4 ?_
  refine x_istore (L' := [(4, zV 0), (3, zV (sh x)), (0, .ref r), (1, zV x), (2, zV k)]) ho d_RU_lettersBehind_5 (by decide) rfl ?_
  have loop_7 : ∀ (kk : Nat) (i : Int) (t : Int) (i0 : 0 ≤ i ∧ i ≤ k) (ht : t = lbN c (sh x) i.toNat) (h16 : 0 ≤ t ∧ t < 16), (k - i).toNat < kk → X M ({ frames := 3, cells := 0, slots := 0, locals := 66 } : Room) 5 nA 0 0 (Qof M nA (q_RU_lettersBehind D r p c x k) 0 0) 7 [(4, zV i), (3, zV t), (0, .ref r), (1, zV x), (2, zV k)] [] H := by
    intro kk
    induction kk with
    | zero => intro i t i0 ht h16 hk; exact absurd hk (Nat.not_lt_zero _)
    | succ kk ih_7 =>
      intro i t i0 ht h16 hk_7
      refine x_iload ho 0 d_RU_lettersBehind_7 rfl ?_
      refine x_iload_n ho 4 d_RU_lettersBehind_9 rfl ?_
      refine x_icmp_ge (tgt := 25) ho d_RU_lettersBehind_10 (by decide) (by omega) (by omega) (fun c_10 => ?_) (fun c_10 => ?_)
      ·
        refine x_iload_n ho 1 d_RU_lettersBehind_25 rfl ?_
        refine x_iret ho hr d_RU_lettersBehind_26 ?_
        rw [show i = k by omega] at ht; subst ht; exact ⟨rfl, h16⟩
      ·
        refine x_aload_n ho 2 d_RU_lettersBehind_13 rfl ?_
        refine x_iload_n ho 1 d_RU_lettersBehind_14 rfl ?_
        refine x_callV (rest := []) ho d_RU_lettersBehind_15 yv_RU_ledToFrom g_562 g_9 g_561 (c_RU_ledToFrom M.2.1 D r p c t (by omega)) rfl rfl ⟨Nat.le_of_ble_eq_true rfl, Nat.le_of_ble_eq_true rfl⟩ ⟨Nat.le_of_ble_eq_true rfl, Nat.le_of_ble_eq_true rfl⟩ rfl rfl (Nat.le_of_ble_eq_true rfl) hR.1 rfl rfl hR fr_none' (x_rd (fun v_1 hv_1 => ?_))
        obtain ⟨rfl, hr_3⟩ := hv_1
        show X _ _ _ _ _ _ _ _ _ [zV (led c t)] _
        refine x_istore_n (L' := [(3, zV (led c t)), (4, zV i), (0, .ref r), (1, zV x), (2, zV k)]) ho d_RU_lettersBehind_18 (by decide) rfl ?_
        refine x_iinc (L' := [(4, zV (i + 1)), (3, zV (led c t)), (0, .ref r), (1, zV x), (2, zV k)]) ho 1 d_RU_lettersBehind_19 rfl rfl (by decide) rfl ?_
        refine x_goto (tgt := 7) ho d_RU_lettersBehind_22 (by decide) ?_
        exact ih_7 (i + 1) (led c t) (by omega) (by rw [show (i + 1).toNat = i.toNat + 1 by omega]; unfold lbN; rw [← ht]) (by exact led_16 h_c t) (by omega)
  exact loop_7 _ 0 (sh x) (by omega) (by rfl) (by exact sh_16 hx.1 hx.2) (Nat.lt_succ_self _)
def q_RU_mixesBy (D : GG) (r : Nat) (p : Int → Nat) (c : Int → List Int) (k : Int) : Option Value → Heap → Prop := fun v0 H => v0 = some (zV (bI (mixB c k.toNat)))
theorem yv_RU_mixesBy : Yv y_RU_mixesBy b_RU_mixesBy 5 (Option.some FieldType.boolean) 1 := ⟨g_602, g_55, by decide, by decide +kernel⟩
set_option maxHeartbeats 4000000 in
set_option maxRecDepth 100000 in
theorem c_RU_mixesBy (l0 : Launch) (D : GG) (r : Nat) (p : Int → Nat) (c : Int → List Int) (k : Int) (hk : 0 ≤ k ∧ k ≤ 1000) : Ct l0 D y_RU_mixesBy b_RU_mixesBy 5 (Option.some FieldType.boolean) ({ frames := 4, cells := 0, slots := 0, locals := 90 } : Room) [.ref r, zV k] (fun H => isR D H r p c) nA 0 0 (q_RU_mixesBy D r p c k) := by
  refine Ct.of (L := [(0, .ref r), (1, zV k)]) (by decide) (Nat.le_of_ble_eq_true rfl) rfl (fun M H ho hr hnm hH hpre => ?_)
  have hR := hpre
  have h_c := hR.wc
  refine x_aload_n ho 0 d_RU_mixesBy_0 rfl ?_
  refine x_iconst ho d_RU_mixesBy_1 ?_
  refine x_callV (rest := []) ho d_RU_mixesBy_2 yv_RU_reachedFrom g_558 g_559 g_603 (c_RU_reachedFrom M.2.1 D r p c 0 (by omega)) rfl rfl ⟨Nat.le_of_ble_eq_true rfl, Nat.le_of_ble_eq_true rfl⟩ ⟨Nat.le_of_ble_eq_true rfl, Nat.le_of_ble_eq_true rfl⟩ rfl rfl (Nat.le_of_ble_eq_true rfl) hR.1 rfl rfl hR fr_none' (x_rd (fun v_1 hv_1 => ?_))
  obtain ⟨rfl, hr_3⟩ := hv_1
  show X _ _ _ _ _ _ _ _ _ [zV (rea c 0)] _
  refine x_istore_n (L' := [(2, zV (rea c 0)), (0, .ref r), (1, zV k)]) ho d_RU_mixesBy_5 (by decide) rfl ?_
  refine x_iconst ho d_RU_mixesBy_6 ?_
  refine x_istore_n (L' := [(3, zV 0), (2, zV (rea c 0)), (0, .ref r), (1, zV k)]) ho d_RU_mixesBy_7 (by decide) rfl ?_
  have loop_8 : ∀ (kk : Nat) (i : Int) (i0 : 0 ≤ i ∧ i ≤ 4) (hj : ∀ j : Int, 0 ≤ j → j < i → hasB (rea c 0) j → andI (rea c 0) (15 - lbN c (sh j) k.toNat) = 0), (4 - i).toNat < kk → X M ({ frames := 4, cells := 0, slots := 0, locals := 90 } : Room) 5 nA 0 0 (Qof M nA (q_RU_mixesBy D r p c k) 0 0) 8 [(3, zV i), (2, zV (rea c 0)), (0, .ref r), (1, zV k)] [] H := by
    intro kk
    induction kk with
    | zero => intro i i0 hj hk; exact absurd hk (Nat.not_lt_zero _)
    | succ kk ih_8 =>
      intro i i0 hj hk_8
      refine x_iload_n ho 0 d_RU_mixesBy_8 rfl ?_
      refine x_iconst ho d_RU_mixesBy_9 ?_
      refine x_icmp_ge (tgt := 46) ho d_RU_mixesBy_10 (by decide) (by omega) (by omega) (fun c_10 => ?_) (fun c_10 => ?_)
      ·
        refine x_iconst ho d_RU_mixesBy_46 ?_
        refine x_zret ho hr (Or.inr rfl) d_RU_mixesBy_47 ?_
        exact rT (by intro j h0 h1; exact hj j h0 (by omega))
      ·
        refine x_iload_n ho 1 d_RU_mixesBy_13 rfl ?_
        refine x_aload_n ho 2 d_RU_mixesBy_14 rfl ?_
        refine x_iload_n ho 0 d_RU_mixesBy_15 rfl ?_
        refine x_iload_n ho 3 d_RU_mixesBy_16 rfl ?_
        refine x_callV (rest := [zV (rea c 0)]) ho d_RU_mixesBy_17 yv_RU_lettersBehind g_605 g_11 g_604 (c_RU_lettersBehind M.2.1 D r p c i k (by omega) (by omega)) rfl rfl ⟨Nat.le_of_ble_eq_true rfl, Nat.le_of_ble_eq_true rfl⟩ ⟨Nat.le_of_ble_eq_true rfl, Nat.le_of_ble_eq_true rfl⟩ rfl rfl (Nat.le_of_ble_eq_true rfl) hR.1 rfl rfl hR fr_none' (x_rd (fun v_4 hv_4 => ?_))
        obtain ⟨rfl, hr_6⟩ := hv_4
        show X _ _ _ _ _ _ _ _ _ [zV (lbN c (sh i) k.toNat), zV (rea c 0)] _
        refine x_iconst ho d_RU_mixesBy_20 ?_
        have hl16 := lbN_16 h_c (sh_16 (x := i) (by omega) (by omega)) k.toNat
        have hr16 := reN_16 h_c (s := sh 0) (sh_16 (by omega) (by omega)) 4
        have hn16 := andI_16 hr16 (b := 15 - lbN c (sh i) k.toNat) (by omega)
        refine x_xorm1 ho d_RU_mixesBy_21 hl16 ?_
        refine x_andn16 ho d_RU_mixesBy_22 hr16 hl16 ?_
        refine x_istore (L' := [(4, zV (andI (rea c 0) (15 - lbN c (sh i) k.toNat))), (3, zV i), (2, zV (rea c 0)), (0, .ref r), (1, zV k)]) ho d_RU_mixesBy_23 (by decide) rfl ?_
        refine x_iload_n ho 2 d_RU_mixesBy_25 rfl ?_
        refine x_iload_n ho 1 d_RU_mixesBy_26 rfl ?_
        refine x_callSN (host := "MorphWords") (rest := []) ho d_RU_mixesBy_27 yv_MW_hasLetter g_564 (List.mem_of_getElem? (i := 9) rfl) (c_MW_hasLetter M.2.1 D (rea c 0) i (by omega) (by omega)) rfl rfl ⟨Nat.le_of_ble_eq_true rfl, Nat.le_of_ble_eq_true rfl⟩ ⟨Nat.le_of_ble_eq_true rfl, Nat.le_of_ble_eq_true rfl⟩ rfl rfl (Nat.le_of_ble_eq_true rfl) trivial fr_none' (x_rd (fun v_7 hv_7 => ?_))
        obtain rfl := hv_7
        show X _ _ _ _ _ _ _ _ _ [zV (bI (hasB (rea c 0) i))] _
        refine x_if_eqB (tgt := 40) ho d_RU_mixesBy_30 (by decide) (fun c_30 => ?_) (fun c_30 => ?_)
        ·
          refine x_iinc (L' := [(3, zV (i + 1)), (4, zV (andI (rea c 0) (15 - lbN c (sh i) k.toNat))), (2, zV (rea c 0)), (0, .ref r), (1, zV k)]) ho 1 d_RU_mixesBy_40 rfl rfl (by decide) rfl ?_
          refine x_goto (tgt := 8) ho d_RU_mixesBy_43 (by decide) ?_
          refine x_sub (L' := [(3, zV (i + 1)), (2, zV (rea c 0)), (0, .ref r), (1, zV k)]) [0, 2, 3, 4] rfl ?_
          exact ih_8 (i + 1) (by omega) (by
              intro j h0 h1 hh
              rcases (show j < i ∨ j = i by omega) with h | h
              · exact hj j h0 h hh
              · subst h; exact absurd hh c_30) (by omega)
        ·
          refine x_iload ho 0 d_RU_mixesBy_33 rfl ?_
          refine x_if_eq (tgt := 40) ho d_RU_mixesBy_35 (by decide) (by show -2147483648 ≤ andI (reN c (sh 0) 4) (15 - lbN c (sh i) k.toNat) ∧ andI (reN c (sh 0) 4) (15 - lbN c (sh i) k.toNat) ≤ 2147483647; omega) (fun c_35 => ?_) (fun c_35 => ?_)
          ·
            refine x_iinc (L' := [(3, zV (i + 1)), (4, zV (andI (rea c 0) (15 - lbN c (sh i) k.toNat))), (2, zV (rea c 0)), (0, .ref r), (1, zV k)]) ho 1 d_RU_mixesBy_40 rfl rfl (by decide) rfl ?_
            refine x_goto (tgt := 8) ho d_RU_mixesBy_43 (by decide) ?_
            refine x_sub (L' := [(3, zV (i + 1)), (2, zV (rea c 0)), (0, .ref r), (1, zV k)]) [0, 2, 3, 4] rfl ?_
            exact ih_8 (i + 1) (by omega) (by
                intro j h0 h1 hh
                rcases (show j < i ∨ j = i by omega) with h | h
                · exact hj j h0 h hh
                · subst h; exact c_35) (by omega)
          ·
            refine x_iconst ho d_RU_mixesBy_38 ?_
            refine x_zret ho hr (Or.inl rfl) d_RU_mixesBy_39 ?_
            exact rF (by intro h; exact c_35 (h i (by omega) (by omega) c_30))
  exact loop_8 _ 0 (by omega) (by intro j h0 h1; omega) (Nat.lt_succ_self _)
def q_RU_exchange (D : GG) (r : Nat) (p : Int → Nat) (c : Int → List Int) (a : Int) (b : Int) : Option Value → Heap → Prop := fun v0 H => v0 = none ∧ isR D H r (fun i => p (sw a b i)) (fun i => (c (sw a b i)).map (sw a b))
theorem yv_RU_exchange : Yv y_RU_exchange b_RU_exchange 4 (Option.none : Option FieldType) 2 := ⟨g_418, g_55, by decide, by decide +kernel⟩
set_option maxHeartbeats 4000000 in
set_option maxRecDepth 100000 in
theorem c_RU_exchange (l0 : Launch) (D : GG) (r : Nat) (p : Int → Nat) (c : Int → List Int) (a : Int) (b : Int) (ha : 0 ≤ a ∧ a < 4) (hb : 0 ≤ b ∧ b < 4) (hab : a ≠ b) : Ct l0 D y_RU_exchange b_RU_exchange 4 (Option.none : Option FieldType) ({ frames := 2, cells := 0, slots := 0, locals := 41 } : Room) [.ref r, zV a, zV b] (fun H => isR D H r p c) (rA r (r + 12)) 0 0 (q_RU_exchange D r p c a b) := by
  refine Ct.of (L := [(0, .ref r), (1, zV a), (2, zV b)]) (by decide) (Nat.le_of_ble_eq_true rfl) rfl (fun M H ho hr hnm hH hpre => ?_)
  have hR := hpre
  refine x_iload_n ho 1 d_RU_exchange_0 rfl ?_
  refine x_callSN (host := "MorphWords") (rest := []) ho d_RU_exchange_1 yv_MW_isLetter g_109 (List.mem_of_getElem? (i := 7) rfl) (c_MW_isLetter M.2.1 D a (by omega)) rfl rfl ⟨Nat.le_of_ble_eq_true rfl, Nat.le_of_ble_eq_true rfl⟩ ⟨Nat.le_of_ble_eq_true rfl, Nat.le_of_ble_eq_true rfl⟩ rfl rfl (Nat.le_of_ble_eq_true rfl) trivial fr_none' (x_rd (fun v_1 hv_1 => ?_))
  obtain rfl := hv_1
  show X _ _ _ _ _ _ _ _ _ [zV (bI (0 ≤ a ∧ a < 4))] _
  refine x_if_eqB (tgt := 14) ho d_RU_exchange_4 (by decide) (fun c_4 => ?_) (fun c_4 => ?_)
  ·
    exact absurd ha c_4
  ·
    refine x_iload_n ho 2 d_RU_exchange_7 rfl ?_
    refine x_callSN (host := "MorphWords") (rest := []) ho d_RU_exchange_8 yv_MW_isLetter g_109 (List.mem_of_getElem? (i := 7) rfl) (c_MW_isLetter M.2.1 D b (by omega)) rfl rfl ⟨Nat.le_of_ble_eq_true rfl, Nat.le_of_ble_eq_true rfl⟩ ⟨Nat.le_of_ble_eq_true rfl, Nat.le_of_ble_eq_true rfl⟩ rfl rfl (Nat.le_of_ble_eq_true rfl) trivial fr_none' (x_rd (fun v_3 hv_3 => ?_))
    obtain rfl := hv_3
    show X _ _ _ _ _ _ _ _ _ [zV (bI (0 ≤ b ∧ b < 4))] _
    refine x_if_neB (tgt := 15) ho d_RU_exchange_11 (by decide) (fun c_11 => ?_) (fun c_11 => ?_)
    ·
      refine x_iconst ho d_RU_exchange_15 ?_
      refine x_istore_n (L' := [(3, zV 0), (0, .ref r), (1, zV a), (2, zV b)]) ho d_RU_exchange_16 (by decide) rfl ?_
      have loop_17 : ∀ (kk : Nat) (i : Int) (g : Int → List Int) (H_5 : Heap) (gR : isR D H_5 r p g) (i0 : 0 ≤ i ∧ i ≤ 4) (hg : ∀ j : Int, 0 ≤ j → j < 4 → g j = if j < i then (c j).map (sw a b) else c j), (4 - i).toNat < kk → X M ({ frames := 2, cells := 0, slots := 0, locals := 41 } : Room) 4 (rA r (r + 12)) 0 0 (Qof M (rA r (r + 12)) (q_RU_exchange D r p c a b) 0 0) 17 [(3, zV i), (0, .ref r), (1, zV a), (2, zV b)] [] H_5 := by
        intro kk
        induction kk with
        | zero => intro i g H_5 gR i0 hg hk; exact absurd hk (Nat.not_lt_zero _)
        | succ kk ih_17 =>
          intro i g H_5 gR i0 hg hk_17
          refine x_iload_n ho 0 d_RU_exchange_17 rfl ?_
          refine x_iconst ho d_RU_exchange_18 ?_
          refine x_icmp_ge (tgt := 38) ho d_RU_exchange_19 (by decide) (by omega) (by omega) (fun c_19 => ?_) (fun c_19 => ?_)
          ·
            obtain ⟨h_o, h_a, h_n, h_4, h_b, h_d⟩ := id gR
            have hA1 := h_4 a ha.1 ha.2
            have hB1 := h_4 b hb.1 hb.2
            have bA := h_b a ha.1 ha.2
            have bB := h_b b hb.1 hb.2
            refine x_aload_n ho 1 d_RU_exchange_38 rfl ?_
            refine x_get 0 ho d_RU_exchange_39 cl_RU (by decide) g_111 h_o rfl ?_
            refine x_iload_n ho 2 d_RU_exchange_42 rfl ?_
            refine x_aald (b := p a) ho d_RU_exchange_43 h_a rfl (by omega) (by omega) (by omega) (by rfl) ?_
            refine x_astore_n (L' := [(3, .ref (p a)), (0, .ref r), (1, zV a), (2, zV b)]) ho d_RU_exchange_44 (by decide) rfl ?_
            refine x_aload_n ho 1 d_RU_exchange_45 rfl ?_
            refine x_get 0 ho d_RU_exchange_46 cl_RU (by decide) g_111 h_o rfl ?_
            refine x_iload_n ho 2 d_RU_exchange_49 rfl ?_
            refine x_aload_n ho 1 d_RU_exchange_50 rfl ?_
            refine x_get 0 ho d_RU_exchange_51 cl_RU (by decide) g_111 h_o rfl ?_
            refine x_iload_n ho 3 d_RU_exchange_54 rfl ?_
            refine x_aald (b := p b) ho d_RU_exchange_55 h_a rfl (by omega) (by omega) (by omega) (by rfl) ?_
            refine x_aast ho d_RU_exchange_56 h_a rfl hB1.1 rfl (by omega) (by omega) (by omega) (rA_in (by omega) (by omega)) (fun H_6 p_7 z_8 q_9 => ?_)
            have k_10 := h_o.kept (q_9 _ (by omega))
            have k_11 := hA1.kept (fun q g1 g2 => q_9 q (by omega))
            have k_12 := hB1.kept (fun q g1 g2 => q_9 q (by omega))
            refine x_aload_n ho 1 d_RU_exchange_57 rfl ?_
            refine x_get 0 ho d_RU_exchange_58 cl_RU (by decide) g_111 k_10 rfl ?_
            refine x_iload_n ho 3 d_RU_exchange_61 rfl ?_
            refine x_aload_n ho 0 d_RU_exchange_62 rfl ?_
            refine x_aast ho d_RU_exchange_63 p_7 rfl k_11.1 rfl (by omega) (by omega) (by omega) (rA_in (by omega) (by omega)) (fun H_13 p_14 z_15 q_16 => ?_)
            have k_17 := k_10.kept (q_16 _ (by omega))
            have k_18 := k_11.kept (fun q g1 g2 => q_16 q (by omega))
            have k_19 := k_12.kept (fun q g1 g2 => q_16 q (by omega))
            refine x_vret ho hr d_RU_exchange_64 ?_
            refine ⟨rfl, (isR_swap gR ha hb hab p_14 (fun q hq => ?_)).c (fun j h0 h1 => ?_)⟩
            · rw [q_16 q hq, q_9 q hq]
            · have hs := sw_r ha hb ⟨h0, h1⟩
              show g (sw a b j) = _
              rw [hg _ hs.1 hs.2, if_pos (by omega)]
          ·
            refine x_aload_n ho 1 d_RU_exchange_22 rfl ?_
            refine x_iload_n ho 0 d_RU_exchange_23 rfl ?_
            refine x_callV (rest := []) ho d_RU_exchange_24 yv_RU_imageOf g_294 g_295 g_293 (c_RU_imageOf M.2.1 D r p g i (by omega)) rfl rfl ⟨Nat.le_of_ble_eq_true rfl, Nat.le_of_ble_eq_true rfl⟩ ⟨Nat.le_of_ble_eq_true rfl, Nat.le_of_ble_eq_true rfl⟩ rfl rfl (Nat.le_of_ble_eq_true rfl) gR.1 rfl rfl gR fr_none' (x_rd (fun v_20 hv_20 => ?_))
            obtain ⟨rfl, hb_22, hI_23⟩ := hv_20
            show X _ _ _ _ _ _ _ _ _ [.ref (p i)] _
            refine x_iload_n ho 2 d_RU_exchange_27 rfl ?_
            refine x_iload_n ho 3 d_RU_exchange_28 rfl ?_
            refine x_callV (rest := []) ho d_RU_exchange_29 yv_LE_exchange g_420 g_421 g_419 (c_LE_exchange M.2.1 D (p i) 8 (g i) a b (by omega) (by omega)) rfl rfl ⟨Nat.le_of_ble_eq_true rfl, Nat.le_of_ble_eq_true rfl⟩ ⟨Nat.le_of_ble_eq_true rfl, Nat.le_of_ble_eq_true rfl⟩ rfl rfl (Nat.le_of_ble_eq_true rfl) hI_23.1 rfl rfl hI_23 (rA_sub (by omega) (by omega)) (fun v_24 H_26 hv_24 f_25 => ?_)
            obtain ⟨rfl, hL_27⟩ := hv_24
            have r_28 : isR D H_26 r p (zU g i ((g i).map (sw a b))) := isR_set gR (by omega) (by omega) hL_27 f_25
            show X _ _ _ _ _ _ _ _ _ [] _
            refine x_iinc (L' := [(3, zV (i + 1)), (0, .ref r), (1, zV a), (2, zV b)]) ho 0 d_RU_exchange_32 rfl rfl (by decide) rfl ?_
            refine x_goto (tgt := 17) ho d_RU_exchange_35 (by decide) ?_
            exact ih_17 (i + 1) (zU g i ((g i).map (sw a b))) H_26 r_28 (by omega) (by
                intro j h0 h1
                by_cases h : j = i
                · subst h; rw [zU_s, if_pos (by omega), hg j h0 h1, if_neg (by omega)]
                · rw [zU_n _ _ h, hg j h0 h1]
                  by_cases h2 : j < i
                  · rw [if_pos h2, if_pos (by omega)]
                  · rw [if_neg h2, if_neg (by omega)]) (by omega)
      exact loop_17 _ 0 c H hR (by omega) (by intro j h0 h1; rw [if_neg (by omega)]) (Nat.lt_succ_self _)
    ·
      exact absurd hb c_11
