def q_MO_lettersIn (D : GG) (m : Nat) (kp : Int) (fl : Int) (fo : Int) (di : Int) (ty : Int) (az : Int) (v : SV) (a : Int) : Option Value → Heap → Prop := fun v0 H => v0 = some (zV (bitL (v.1 a))) ∧ (0 ≤ bitL (v.1 a) ∧ bitL (v.1 a) < 16)
theorem yv_MO_lettersIn : Yv y_MO_lettersIn b_MO_lettersIn 4 (Option.some FieldType.int) 1 := ⟨g_944, g_65, by decide, by decide +kernel⟩
set_option maxHeartbeats 4000000 in
set_option maxRecDepth 100000 in
theorem c_MO_lettersIn (l0 : Launch) (D : GG) (m : Nat) (kp : Int) (fl : Int) (fo : Int) (di : Int) (ty : Int) (az : Int) (v : SV) (a : Int) (ha : 0 ≤ a ∧ a < 4) : Ct l0 D y_MO_lettersIn b_MO_lettersIn 4 (Option.some FieldType.int) ({ frames := 1, cells := 0, slots := 0, locals := 22 } : Room) [.ref m, zV a] (fun H => At D H m (oO 11 [.ref (m + 1), .ref (m + 2), zV kp, .ref (m + 3), zV fl, .ref (m + 4), .ref (m + 5), .ref (m + 6), zV fo, .ref (m + 7), zV di, zV ty, .ref (m + 8), zV az, .ref (m + 9), .ref (m + 10), .ref (m + 11)]) ∧ isN D H (m + 1) v) nA 0 0 (q_MO_lettersIn D m kp fl fo di ty az v a) := by
  refine Ct.of (L := [(0, .ref m), (1, zV a)]) (by decide) (Nat.le_of_ble_eq_true rfl) rfl (fun M H ho hr hnm hH hpre => ?_)
  obtain ⟨t_o, t_n⟩ := hpre
  obtain ⟨n_f, n_a, n_r, n_o⟩ := id t_n
  have n_1 := n_o.1
  have n_2 := n_o.2.1
  have n_3 := n_o.2.2
  refine x_iconst ho d_MO_lettersIn_0 ?_
  refine x_istore_n (L' := [(2, zV 0), (0, .ref m), (1, zV a)]) ho d_MO_lettersIn_1 (by decide) rfl ?_
  refine x_iconst ho d_MO_lettersIn_2 ?_
  refine x_istore_n (L' := [(3, zV 0), (2, zV 0), (0, .ref m), (1, zV a)]) ho d_MO_lettersIn_3 (by decide) rfl ?_
  have loop_4 : ∀ (kk : Nat) (k : Int) (s : Int) (k0 : 0 ≤ k ∧ k ≤ ((v.1 a).length : Int)) (s0 : 0 ≤ s ∧ s < 16) (hs : s = bitL (tk (v.1 a) k)), (((v.1 a).length : Int) - k).toNat < kk → X M ({ frames := 1, cells := 0, slots := 0, locals := 22 } : Room) 4 nA 0 0 (Qof M nA (q_MO_lettersIn D m kp fl fo di ty az v a) 0 0) 4 [(3, zV k), (2, zV s), (0, .ref m), (1, zV a)] [] H := by
    intro kk
    induction kk with
    | zero => intro k s k0 s0 hs hk; exact absurd hk (Nat.not_lt_zero _)
    | succ kk ih_4 =>
      intro k s k0 s0 hs hk_4
      refine x_iload_n ho 0 d_MO_lettersIn_4 rfl ?_
      have h_c := n_1 a ha.1 ha.2
      refine x_aload_n ho 2 d_MO_lettersIn_5 rfl ?_
      refine x_iload_n ho 3 d_MO_lettersIn_6 rfl ?_
      refine x_callV (rest := [zV k]) ho d_MO_lettersIn_7 yv_MO_size g_829 g_26 g_828 (c_MO_size M.2.1 D m kp fl fo di ty az v a (by omega)) rfl rfl ⟨Nat.le_of_ble_eq_true rfl, Nat.le_of_ble_eq_true rfl⟩ ⟨Nat.le_of_ble_eq_true rfl, Nat.le_of_ble_eq_true rfl⟩ rfl rfl (Nat.le_of_ble_eq_true rfl) t_o rfl rfl ⟨t_o, t_n⟩ fr_none' (x_rd (fun v_1 hv_1 => ?_))
      obtain ⟨rfl, sb_3⟩ := hv_1
      show X _ _ _ _ _ _ _ _ _ [zV (((v.1 a).length : Int)), zV k] _
      refine x_icmp_ge (tgt := 30) ho d_MO_lettersIn_10 (by decide) (by omega) (by omega) (fun c_10 => ?_) (fun c_10 => ?_)
      ·
        rw [tk_all (by omega)] at hs
        refine x_iload_n ho 1 d_MO_lettersIn_30 rfl ?_
        refine x_iret ho hr d_MO_lettersIn_31 ?_
        exact ⟨rI (by exact hs), (by rw [← hs]; exact s0)⟩
      ·
        refine x_iload_n ho 1 d_MO_lettersIn_13 rfl ?_
        refine x_iconst ho d_MO_lettersIn_14 ?_
        refine x_aload_n ho 2 d_MO_lettersIn_15 rfl ?_
        refine x_iload_n ho 3 d_MO_lettersIn_16 rfl ?_
        refine x_iload_n ho 0 d_MO_lettersIn_17 rfl ?_
        refine x_callV (rest := [zV 1, zV s]) ho d_MO_lettersIn_18 yv_MO_sign g_832 g_27 g_831 (c_MO_sign M.2.1 D m kp fl fo di ty az v a k (by omega) (by omega)) rfl rfl ⟨Nat.le_of_ble_eq_true rfl, Nat.le_of_ble_eq_true rfl⟩ ⟨Nat.le_of_ble_eq_true rfl, Nat.le_of_ble_eq_true rfl⟩ rfl rfl (Nat.le_of_ble_eq_true rfl) t_o rfl rfl ⟨t_o, t_n⟩ fr_none' (x_rd (fun v_4 hv_4 => ?_))
        obtain ⟨rfl, gb_6⟩ := hv_4
        show X _ _ _ _ _ _ _ _ _ [zV (gA (v.1 a) k), zV 1, zV s] _
        refine x_shl1 ho d_MO_lettersIn_21 (by omega) ?_
        have hgr := gA_r h_c.2.2 k
        have hsr := sh_16 hgr.1 hgr.2
        have hor := orI_16 s0 hsr
        refine x_or16 ho d_MO_lettersIn_22 (by omega) (by omega) ?_
        refine x_istore_n (L' := [(2, zV (orI s (sh (gA (v.1 a) k)))), (3, zV k), (0, .ref m), (1, zV a)]) ho d_MO_lettersIn_23 (by decide) rfl ?_
        refine x_iinc (L' := [(3, zV (k + 1)), (2, zV (orI s (sh (gA (v.1 a) k)))), (0, .ref m), (1, zV a)]) ho 1 d_MO_lettersIn_24 rfl rfl (by decide) rfl ?_
        refine x_goto (tgt := 4) ho d_MO_lettersIn_27 (by decide) ?_
        exact ih_4 (k + 1) (orI s (sh (gA (v.1 a) k))) (by omega) (by omega) (by rw [tk_succ (by omega) (by omega), bitL_snoc, hs]) (by omega)
  exact loop_4 _ 0 0 (by omega) (by omega) (by rw [tk_0]; rfl) (Nat.lt_succ_self _)
def q_MO_lettersOfWord (D : GG) (m : Nat) (kp : Int) (fl : Int) (fo : Int) (di : Int) (ty : Int) (az : Int) (v : SV) : Option Value → Heap → Prop := fun v0 H => v0 = some (zV (bitL v.2.1))
theorem yv_MO_lettersOfWord : Yv y_MO_lettersOfWord b_MO_lettersOfWord 3 (Option.some FieldType.int) 0 := ⟨g_1031, g_65, by decide, by decide +kernel⟩
set_option maxHeartbeats 4000000 in
set_option maxRecDepth 100000 in
theorem c_MO_lettersOfWord (l0 : Launch) (D : GG) (m : Nat) (kp : Int) (fl : Int) (fo : Int) (di : Int) (ty : Int) (az : Int) (v : SV)  : Ct l0 D y_MO_lettersOfWord b_MO_lettersOfWord 3 (Option.some FieldType.int) ({ frames := 1, cells := 0, slots := 0, locals := 21 } : Room) [.ref m] (fun H => At D H m (oO 11 [.ref (m + 1), .ref (m + 2), zV kp, .ref (m + 3), zV fl, .ref (m + 4), .ref (m + 5), .ref (m + 6), zV fo, .ref (m + 7), zV di, zV ty, .ref (m + 8), zV az, .ref (m + 9), .ref (m + 10), .ref (m + 11)]) ∧ isN D H (m + 1) v) nA 0 0 (q_MO_lettersOfWord D m kp fl fo di ty az v) := by
  refine Ct.of (L := [(0, .ref m)]) (by decide) (Nat.le_of_ble_eq_true rfl) rfl (fun M H ho hr hnm hH hpre => ?_)
  obtain ⟨t_o, t_n⟩ := hpre
  obtain ⟨n_f, n_a, n_r, n_o⟩ := id t_n
  have n_1 := n_o.1
  have n_2 := n_o.2.1
  have n_3 := n_o.2.2
  refine x_iconst ho d_MO_lettersOfWord_0 ?_
  refine x_istore_n (L' := [(1, zV 0), (0, .ref m)]) ho d_MO_lettersOfWord_1 (by decide) rfl ?_
  refine x_iconst ho d_MO_lettersOfWord_2 ?_
  refine x_istore_n (L' := [(2, zV 0), (1, zV 0), (0, .ref m)]) ho d_MO_lettersOfWord_3 (by decide) rfl ?_
  have loop_4 : ∀ (kk : Nat) (k : Int) (s : Int) (k0 : 0 ≤ k ∧ k ≤ (v.2.1.length : Int)) (s0 : 0 ≤ s ∧ s < 16) (hs : s = bitL (tk v.2.1 k)), ((v.2.1.length : Int) - k).toNat < kk → X M ({ frames := 1, cells := 0, slots := 0, locals := 21 } : Room) 3 nA 0 0 (Qof M nA (q_MO_lettersOfWord D m kp fl fo di ty az v) 0 0) 4 [(2, zV k), (1, zV s), (0, .ref m)] [] H := by
    intro kk
    induction kk with
    | zero => intro k s k0 s0 hs hk; exact absurd hk (Nat.not_lt_zero _)
    | succ kk ih_4 =>
      intro k s k0 s0 hs hk_4
      refine x_iload_n ho 0 d_MO_lettersOfWord_4 rfl ?_
      refine x_aload_n ho 2 d_MO_lettersOfWord_5 rfl ?_
      refine x_callV (rest := [zV k]) ho d_MO_lettersOfWord_6 yv_MO_length g_862 g_31 g_861 (c_MO_length M.2.1 D m kp fl fo di ty az v ) rfl rfl ⟨Nat.le_of_ble_eq_true rfl, Nat.le_of_ble_eq_true rfl⟩ ⟨Nat.le_of_ble_eq_true rfl, Nat.le_of_ble_eq_true rfl⟩ rfl rfl (Nat.le_of_ble_eq_true rfl) t_o rfl rfl ⟨t_o, t_n⟩ fr_none' (x_rd (fun v_1 hv_1 => ?_))
      obtain ⟨rfl, lb_3⟩ := hv_1
      show X _ _ _ _ _ _ _ _ _ [zV ((v.2.1.length : Int)), zV k] _
      refine x_icmp_ge (tgt := 28) ho d_MO_lettersOfWord_9 (by decide) (by omega) (by omega) (fun c_9 => ?_) (fun c_9 => ?_)
      ·
        rw [tk_all (by omega)] at hs
        refine x_iload_n ho 1 d_MO_lettersOfWord_28 rfl ?_
        refine x_iret ho hr d_MO_lettersOfWord_29 ?_
        exact rI (by exact hs)
      ·
        refine x_iload_n ho 1 d_MO_lettersOfWord_12 rfl ?_
        refine x_iconst ho d_MO_lettersOfWord_13 ?_
        refine x_aload_n ho 2 d_MO_lettersOfWord_14 rfl ?_
        refine x_iload_n ho 0 d_MO_lettersOfWord_15 rfl ?_
        refine x_callV (rest := [zV 1, zV s]) ho d_MO_lettersOfWord_16 yv_MO_word g_865 g_32 g_864 (c_MO_word M.2.1 D m kp fl fo di ty az v k (by omega)) rfl rfl ⟨Nat.le_of_ble_eq_true rfl, Nat.le_of_ble_eq_true rfl⟩ ⟨Nat.le_of_ble_eq_true rfl, Nat.le_of_ble_eq_true rfl⟩ rfl rfl (Nat.le_of_ble_eq_true rfl) t_o rfl rfl ⟨t_o, t_n⟩ fr_none' (x_rd (fun v_4 hv_4 => ?_))
        obtain ⟨rfl, gb_6⟩ := hv_4
        show X _ _ _ _ _ _ _ _ _ [zV (gA v.2.1 k), zV 1, zV s] _
        refine x_shl1 ho d_MO_lettersOfWord_19 (by omega) ?_
        have hgr := gA_r n_2.2.2 k
        have hsr := sh_16 hgr.1 hgr.2
        have hor := orI_16 s0 hsr
        refine x_or16 ho d_MO_lettersOfWord_20 (by omega) (by omega) ?_
        refine x_istore_n (L' := [(1, zV (orI s (sh (gA v.2.1 k)))), (2, zV k), (0, .ref m)]) ho d_MO_lettersOfWord_21 (by decide) rfl ?_
        refine x_iinc (L' := [(2, zV (k + 1)), (1, zV (orI s (sh (gA v.2.1 k)))), (0, .ref m)]) ho 1 d_MO_lettersOfWord_22 rfl rfl (by decide) rfl ?_
        refine x_goto (tgt := 4) ho d_MO_lettersOfWord_25 (by decide) ?_
        exact ih_4 (k + 1) (orI s (sh (gA v.2.1 k))) (by omega) (by omega) (by rw [tk_succ (by omega) (by omega), bitL_snoc, hs]) (by omega)
  exact loop_4 _ 0 0 (by omega) (by omega) (by rw [tk_0]; rfl) (Nat.lt_succ_self _)
def q_MO_ahead (D : GG) (m : Nat) (kp : Int) (fl : Int) (fo : Int) (di : Int) (ty : Int) (az : Int) (v : SV) (e : Int) : Option Value → Heap → Prop := fun v0 H => v0 = some (zV (led v.1 e)) ∧ (0 ≤ led v.1 e ∧ led v.1 e < 16)
theorem yv_MO_ahead : Yv y_MO_ahead b_MO_ahead 4 (Option.some FieldType.int) 1 := ⟨g_950, g_65, by decide, by decide +kernel⟩
set_option maxHeartbeats 4000000 in
set_option maxRecDepth 100000 in
theorem c_MO_ahead (l0 : Launch) (D : GG) (m : Nat) (kp : Int) (fl : Int) (fo : Int) (di : Int) (ty : Int) (az : Int) (v : SV) (e : Int) (he : 0 ≤ e ∧ e < 16) : Ct l0 D y_MO_ahead b_MO_ahead 4 (Option.some FieldType.int) ({ frames := 2, cells := 0, slots := 0, locals := 45 } : Room) [.ref m, zV e] (fun H => At D H m (oO 11 [.ref (m + 1), .ref (m + 2), zV kp, .ref (m + 3), zV fl, .ref (m + 4), .ref (m + 5), .ref (m + 6), zV fo, .ref (m + 7), zV di, zV ty, .ref (m + 8), zV az, .ref (m + 9), .ref (m + 10), .ref (m + 11)]) ∧ isN D H (m + 1) v) nA 0 0 (q_MO_ahead D m kp fl fo di ty az v e) := by
  refine Ct.of (L := [(0, .ref m), (1, zV e)]) (by decide) (Nat.le_of_ble_eq_true rfl) rfl (fun M H ho hr hnm hH hpre => ?_)
  obtain ⟨t_o, t_n⟩ := hpre
  obtain ⟨n_f, n_a, n_r, n_o⟩ := id t_n
  have n_1 := n_o.1
  have n_2 := n_o.2.1
  have n_3 := n_o.2.2
  refine x_iconst ho d_MO_ahead_0 ?_
  refine x_istore_n (L' := [(2, zV 0), (0, .ref m), (1, zV e)]) ho d_MO_ahead_1 (by decide) rfl ?_
  refine x_iconst ho d_MO_ahead_2 ?_
  refine x_istore_n (L' := [(3, zV 0), (2, zV 0), (0, .ref m), (1, zV e)]) ho d_MO_ahead_3 (by decide) rfl ?_
  have loop_4 : ∀ (kk : Nat) (l : Int) (s : Int) (l0 : 0 ≤ l ∧ l ≤ 4) (s0 : 0 ≤ s ∧ s < 16) (hs : s = ledN v.1 e l.toNat), (4 - l).toNat < kk → X M ({ frames := 2, cells := 0, slots := 0, locals := 45 } : Room) 4 nA 0 0 (Qof M nA (q_MO_ahead D m kp fl fo di ty az v e) 0 0) 4 [(3, zV l), (2, zV s), (0, .ref m), (1, zV e)] [] H := by
    intro kk
    induction kk with
    | zero => intro l s l0 s0 hs hk; exact absurd hk (Nat.not_lt_zero _)
    | succ kk ih_4 =>
      intro l s l0 s0 hs hk_4
      refine x_iload_n ho 0 d_MO_ahead_4 rfl ?_
      refine x_iconst ho d_MO_ahead_5 ?_
      refine x_icmp_ge (tgt := 36) ho d_MO_ahead_6 (by decide) (by omega) (by omega) (fun c_6 => ?_) (fun c_6 => ?_)
      ·
        refine x_iload_n ho 1 d_MO_ahead_36 rfl ?_
        refine x_iret ho hr d_MO_ahead_37 ?_
        exact ⟨rI (by rw [hs, show l = 4 by omega]; rfl), (by exact led_16 (fun i p q => (n_1 i p q).2.2) e)⟩
      ·
        refine x_iload_n ho 1 d_MO_ahead_9 rfl ?_
        refine x_iload_n ho 3 d_MO_ahead_10 rfl ?_
        refine x_iload_n ho 0 d_MO_ahead_11 rfl ?_
        refine x_shr16 ho d_MO_ahead_12 (by omega) (by omega) ?_
        have hsh := shr_16 (s := e) (l := l) (by omega) (by omega)
        have hbr := bI_r (hasB e l)
        refine x_iconst ho d_MO_ahead_13 ?_
        refine x_and16 ho d_MO_ahead_14 (by omega) (by omega) ?_
        refine x_eqI (b := (bI (hasB e l))) (by exact bit_has (by omega) (by omega)) ?_
        refine x_iconst ho d_MO_ahead_15 ?_
        refine x_icmp_ne (tgt := 27) ho d_MO_ahead_16 (by decide) (by omega) (by omega) (fun c_16 => ?_) (fun c_16 => ?_)
        ·
          refine x_iconst ho d_MO_ahead_27 ?_
          refine x_or16 ho d_MO_ahead_28 (by omega) (by omega) ?_
          refine x_eqI (b := s) (by exact orI_0 (by omega)) ?_
          refine x_istore_n (L' := [(2, zV s), (3, zV l), (0, .ref m), (1, zV e)]) ho d_MO_ahead_29 (by decide) rfl ?_
          refine x_iinc (L' := [(3, zV (l + 1)), (2, zV s), (0, .ref m), (1, zV e)]) ho 1 d_MO_ahead_30 rfl rfl (by decide) rfl ?_
          refine x_goto (tgt := 4) ho d_MO_ahead_33 (by decide) ?_
          exact ih_4 (l + 1) s (by omega) (by omega) (by rw [led_f (by omega) c_16]; exact hs) (by omega)
        ·
          refine x_aload_n ho 2 d_MO_ahead_19 rfl ?_
          refine x_iload_n ho 0 d_MO_ahead_20 rfl ?_
          refine x_callV (rest := [zV s]) ho d_MO_ahead_21 yv_MO_lettersIn g_943 g_42 g_942 (c_MO_lettersIn M.2.1 D m kp fl fo di ty az v l (by omega)) rfl rfl ⟨Nat.le_of_ble_eq_true rfl, Nat.le_of_ble_eq_true rfl⟩ ⟨Nat.le_of_ble_eq_true rfl, Nat.le_of_ble_eq_true rfl⟩ rfl rfl (Nat.le_of_ble_eq_true rfl) t_o rfl rfl ⟨t_o, t_n⟩ fr_none' (x_rd (fun v_1 hv_1 => ?_))
          obtain ⟨rfl, bb_3⟩ := hv_1
          show X _ _ _ _ _ _ _ _ _ [zV (bitL (v.1 l)), zV s] _
          refine x_goto (tgt := 28) ho d_MO_ahead_24 (by decide) ?_
          have hor := orI_16 s0 bb_3
          refine x_or16 ho d_MO_ahead_28 (by omega) (by omega) ?_
          refine x_eqI (b := orI s (bitL (v.1 l))) (by rfl) ?_
          refine x_istore_n (L' := [(2, zV (orI s (bitL (v.1 l)))), (3, zV l), (0, .ref m), (1, zV e)]) ho d_MO_ahead_29 (by decide) rfl ?_
          refine x_iinc (L' := [(3, zV (l + 1)), (2, zV (orI s (bitL (v.1 l)))), (0, .ref m), (1, zV e)]) ho 1 d_MO_ahead_30 rfl rfl (by decide) rfl ?_
          refine x_goto (tgt := 4) ho d_MO_ahead_33 (by decide) ?_
          exact ih_4 (l + 1) (orI s (bitL (v.1 l))) (by omega) (by omega) (by rw [led_t (by omega) c_16, hs]) (by omega)
  exact loop_4 _ 0 0 (by omega) (by omega) (by rfl) (Nat.lt_succ_self _)
def q_MO_reached (D : GG) (m : Nat) (kp : Int) (fl : Int) (fo : Int) (di : Int) (ty : Int) (az : Int) (v : SV) (a : Int) : Option Value → Heap → Prop := fun v0 H => v0 = some (zV (rea v.1 a)) ∧ (0 ≤ rea v.1 a ∧ rea v.1 a < 16)
theorem yv_MO_reached : Yv y_MO_reached b_MO_reached 4 (Option.some FieldType.int) 1 := ⟨g_947, g_65, by decide, by decide +kernel⟩
set_option maxHeartbeats 4000000 in
set_option maxRecDepth 100000 in
theorem c_MO_reached (l0 : Launch) (D : GG) (m : Nat) (kp : Int) (fl : Int) (fo : Int) (di : Int) (ty : Int) (az : Int) (v : SV) (a : Int) (ha : 0 ≤ a ∧ a < 4) : Ct l0 D y_MO_reached b_MO_reached 4 (Option.some FieldType.int) ({ frames := 3, cells := 0, slots := 0, locals := 68 } : Room) [.ref m, zV a] (fun H => At D H m (oO 11 [.ref (m + 1), .ref (m + 2), zV kp, .ref (m + 3), zV fl, .ref (m + 4), .ref (m + 5), .ref (m + 6), zV fo, .ref (m + 7), zV di, zV ty, .ref (m + 8), zV az, .ref (m + 9), .ref (m + 10), .ref (m + 11)]) ∧ isN D H (m + 1) v) nA 0 0 (q_MO_reached D m kp fl fo di ty az v a) := by
  refine Ct.of (L := [(0, .ref m), (1, zV a)]) (by decide) (Nat.le_of_ble_eq_true rfl) rfl (fun M H ho hr hnm hH hpre => ?_)
  obtain ⟨t_o, t_n⟩ := hpre
  obtain ⟨n_f, n_a, n_r, n_o⟩ := id t_n
  have n_1 := n_o.1
  have n_2 := n_o.2.1
  have n_3 := n_o.2.2
  refine x_iconst ho d_MO_reached_0 ?_
  refine x_iload_n ho 1 d_MO_reached_1 rfl ?_
  refine x_shl1 ho d_MO_reached_2 (by omega) ?_
  refine x_istore_n (L' := [(2, zV (sh a)), (0, .ref m), (1, zV a)]) ho d_MO_reached_3 (by decide) rfl ?_
  refine x_iconst ho d_MO_reached_4 ?_
  refine x_istore_n (L' := [(3, zV 0), (2, zV (sh a)), (0, .ref m), (1, zV a)]) ho d_MO_reached_5 (by decide) rfl ?_
  have loop_6 : ∀ (kk : Nat) (k : Int) (s : Int) (k0 : 0 ≤ k ∧ k ≤ 4) (s0 : 0 ≤ s ∧ s < 16) (hs : s = reN v.1 (sh a) k.toNat), (4 - k).toNat < kk → X M ({ frames := 3, cells := 0, slots := 0, locals := 68 } : Room) 4 nA 0 0 (Qof M nA (q_MO_reached D m kp fl fo di ty az v a) 0 0) 6 [(3, zV k), (2, zV s), (0, .ref m), (1, zV a)] [] H := by
    intro kk
    induction kk with
    | zero => intro k s k0 s0 hs hk; exact absurd hk (Nat.not_lt_zero _)
    | succ kk ih_6 =>
      intro k s k0 s0 hs hk_6
      refine x_iload_n ho 0 d_MO_reached_6 rfl ?_
      refine x_iconst ho d_MO_reached_7 ?_
      refine x_icmp_ge (tgt := 25) ho d_MO_reached_8 (by decide) (by omega) (by omega) (fun c_8 => ?_) (fun c_8 => ?_)
      ·
        refine x_iload_n ho 1 d_MO_reached_25 rfl ?_
        refine x_iret ho hr d_MO_reached_26 ?_
        exact ⟨rI (by rw [hs, show k = 4 by omega]; rfl), (by exact reN_16 (fun i p q => (n_1 i p q).2.2) (sh_16 ha.1 ha.2) 4)⟩
      ·
        refine x_iload_n ho 1 d_MO_reached_11 rfl ?_
        refine x_aload_n ho 2 d_MO_reached_12 rfl ?_
        refine x_iload_n ho 1 d_MO_reached_13 rfl ?_
        refine x_callV (rest := [zV s]) ho d_MO_reached_14 yv_MO_ahead g_949 g_44 g_948 (c_MO_ahead M.2.1 D m kp fl fo di ty az v s (by omega)) rfl rfl ⟨Nat.le_of_ble_eq_true rfl, Nat.le_of_ble_eq_true rfl⟩ ⟨Nat.le_of_ble_eq_true rfl, Nat.le_of_ble_eq_true rfl⟩ rfl rfl (Nat.le_of_ble_eq_true rfl) t_o rfl rfl ⟨t_o, t_n⟩ fr_none' (x_rd (fun v_1 hv_1 => ?_))
        obtain ⟨rfl, bb_3⟩ := hv_1
        show X _ _ _ _ _ _ _ _ _ [zV (led v.1 s), zV s] _
        refine x_or16 ho d_MO_reached_17 (by omega) (by omega) ?_
        refine x_istore_n (L' := [(2, zV (orI s (led v.1 s))), (3, zV k), (0, .ref m), (1, zV a)]) ho d_MO_reached_18 (by decide) rfl ?_
        refine x_iinc (L' := [(3, zV (k + 1)), (2, zV (orI s (led v.1 s))), (0, .ref m), (1, zV a)]) ho 1 d_MO_reached_19 rfl rfl (by decide) rfl ?_
        refine x_goto (tgt := 6) ho d_MO_reached_22 (by decide) ?_
        exact ih_6 (k + 1) (orI s (led v.1 s)) (by omega) (by exact orI_16 s0 bb_3) (by rw [reN_s (by omega), ← hs]) (by omega)
  exact loop_6 _ 0 (sh a) (by omega) (by exact sh_16 ha.1 ha.2) (by rfl) (Nat.lt_succ_self _)
def q_MO_image (D : GG) (m : Nat) (V : WV) (z1 : Int) (z2 : Int) : Option Value → Heap → Prop := fun v0 H => v0 = some (zV (r_image z1 z2 V)) ∧ isO D H m V
theorem yv_MO_image : Yv y_MO_image b_MO_image 3 (Option.some FieldType.int) 2 := ⟨g_937, g_65, by decide, by decide +kernel⟩
set_option maxHeartbeats 4000000 in
set_option maxRecDepth 100000 in
theorem c_MO_image (l0 : Launch) (D : GG) (m : Nat) (V : WV) (z1 : Int) (z2 : Int) (hz1 : -2147483648 ≤ z1 ∧ z1 ≤ 2147483647) (hz2 : -2147483648 ≤ z2 ∧ z2 ≤ 2147483647) : Ct l0 D y_MO_image b_MO_image 3 (Option.some FieldType.int) ({ frames := 2, cells := 0, slots := 0, locals := 42 } : Room) [.ref m, zV z1, zV z2] (fun H => isO D H m V) (rA m (m + 12)) 0 0 (q_MO_image D m V z1 z2) := by
  refine Ct.of (L := [(0, .ref m), (1, zV z1), (2, zV z2)]) (by decide) (Nat.le_of_ble_eq_true rfl) rfl (fun M H ho hr hnm hH hpre => ?_)
  have hW := hpre
  obtain ⟨o_fo, o_di, o_az, o_t, o_b, o_p, o_u, o_c, o_e, o_y, a_o, a_n, a_h, a_s, a_t, a_b, a_p, a_u, a_x, a_c, a_e, a_y, a_k⟩ := id hW
  have n_o := a_n.ok
  have n_1 := n_o.1
  have n_2 := n_o.2.1
  have n_3 := n_o.2.2
  have h_b := a_h.b
  refine x_iload_n ho 1 d_MO_image_0 rfl ?_
  refine x_callS (rest := []) ho d_MO_image_1 yv_MO_no g_856 g_855 (c_MO_no M.2.1 D z1 (by omega)) rfl rfl ⟨Nat.le_of_ble_eq_true rfl, Nat.le_of_ble_eq_true rfl⟩ ⟨Nat.le_of_ble_eq_true rfl, Nat.le_of_ble_eq_true rfl⟩ rfl rfl (Nat.le_of_ble_eq_true rfl) trivial fr_none' (x_rd (fun v_1 hv_1 => ?_))
  obtain rfl := hv_1
  show X _ _ _ _ _ _ _ _ _ [zV (bI (¬ isA z1))] _
  refine x_if_neB (tgt := 22) ho d_MO_image_4 (by decide) (fun c_4 => ?_) (fun c_4 => ?_)
  ·
    have z_4 : ¬ isA z1 := c_4
    refine x_iconst ho d_MO_image_22 ?_
    refine x_goto (tgt := 32) ho d_MO_image_23 (by decide) ?_
    refine x_iret ho hr d_MO_image_32 ?_
    exact ⟨rI (by unfold r_image; rw [cif_f (z_4)]), isO_mk a_o a_n a_h a_s a_t a_b a_p a_u a_x a_c a_e a_y a_k⟩
  ·
    have z_4 : isA z1 := Classical.not_not.mp c_4
    refine x_iload_n ho 2 d_MO_image_7 rfl ?_
    refine x_iconst ho d_MO_image_8 ?_
    refine x_aload_n ho 0 d_MO_image_9 rfl ?_
    refine x_iload_n ho 1 d_MO_image_10 rfl ?_
    refine x_callV (rest := [zV 0, zV z2]) ho d_MO_image_11 yv_MO_size g_829 g_26 g_828 (c_MO_size M.2.1 D m ((V.2.2.2.1.length : Int)) V.2.2.1 o_fo o_di ((V.2.2.2.2.length : Int)) o_az V.1 z1 (by omega)) rfl rfl ⟨Nat.le_of_ble_eq_true rfl, Nat.le_of_ble_eq_true rfl⟩ ⟨Nat.le_of_ble_eq_true rfl, Nat.le_of_ble_eq_true rfl⟩ rfl rfl (Nat.le_of_ble_eq_true rfl) a_o rfl rfl ⟨a_o, a_n⟩ fr_none' (x_rd (fun v_3 hv_3 => ?_))
    obtain ⟨rfl, sb_5⟩ := hv_3
    show X _ _ _ _ _ _ _ _ _ [zV (((V.1.1 z1).length : Int)), zV 0, zV z2] _
    refine x_iconst ho d_MO_image_14 ?_
    refine x_isub ho d_MO_image_15 ?_
    refine x_callS (rest := []) ho d_MO_image_16 yv_MO_in g_823 g_822 (c_MO_in M.2.1 D z2 0 ((((V.1.1 z1).length : Int)) - 1) (by omega) (by omega) (by omega)) rfl rfl ⟨Nat.le_of_ble_eq_true rfl, Nat.le_of_ble_eq_true rfl⟩ ⟨Nat.le_of_ble_eq_true rfl, Nat.le_of_ble_eq_true rfl⟩ rfl rfl (Nat.le_of_ble_eq_true rfl) trivial fr_none' (x_rd (fun v_6 hv_6 => ?_))
    obtain rfl := hv_6
    show X _ _ _ _ _ _ _ _ _ [zV (bI (0 ≤ z2 ∧ z2 ≤ ((((V.1.1 z1).length : Int)) - 1)))] _
    refine x_if_neB (tgt := 26) ho d_MO_image_19 (by decide) (fun c_19 => ?_) (fun c_19 => ?_)
    ·
      refine x_aload_n ho 0 d_MO_image_26 rfl ?_
      refine x_iload_n ho 1 d_MO_image_27 rfl ?_
      refine x_iload_n ho 2 d_MO_image_28 rfl ?_
      refine x_callV (rest := []) ho d_MO_image_29 yv_MO_sign g_832 g_27 g_831 (c_MO_sign M.2.1 D m ((V.2.2.2.1.length : Int)) V.2.2.1 o_fo o_di ((V.2.2.2.2.length : Int)) o_az V.1 z1 z2 (by omega) (by omega)) rfl rfl ⟨Nat.le_of_ble_eq_true rfl, Nat.le_of_ble_eq_true rfl⟩ ⟨Nat.le_of_ble_eq_true rfl, Nat.le_of_ble_eq_true rfl⟩ rfl rfl (Nat.le_of_ble_eq_true rfl) a_o rfl rfl ⟨a_o, a_n⟩ fr_none' (x_rd (fun v_8 hv_8 => ?_))
      obtain ⟨rfl, gb_10⟩ := hv_8
      show X _ _ _ _ _ _ _ _ _ [zV (gA (V.1.1 z1) z2)] _
      refine x_iret ho hr d_MO_image_32 ?_
      exact ⟨rI (by unfold r_image; rw [cif_t (z_4), lat_in (by omega) (by omega)]), isO_mk a_o a_n a_h a_s a_t a_b a_p a_u a_x a_c a_e a_y a_k⟩
    ·
      refine x_iconst ho d_MO_image_22 ?_
      refine x_goto (tgt := 32) ho d_MO_image_23 (by decide) ?_
      refine x_iret ho hr d_MO_image_32 ?_
      exact ⟨rI (by unfold r_image; rw [cif_t (z_4), lat_out (by omega)]), isO_mk a_o a_n a_h a_s a_t a_b a_p a_u a_x a_c a_e a_y a_k⟩
def q_MO_at (D : GG) (m : Nat) (V : WV) (z1 : Int) : Option Value → Heap → Prop := fun v0 H => v0 = some (zV (r_at z1 V)) ∧ isO D H m V
theorem yv_MO_at : Yv y_MO_at b_MO_at 2 (Option.some FieldType.int) 1 := ⟨g_974, g_65, by decide, by decide +kernel⟩
set_option maxHeartbeats 4000000 in
set_option maxRecDepth 100000 in
theorem c_MO_at (l0 : Launch) (D : GG) (m : Nat) (V : WV) (z1 : Int) (hz1 : -2147483648 ≤ z1 ∧ z1 ≤ 2147483647) : Ct l0 D y_MO_at b_MO_at 2 (Option.some FieldType.int) ({ frames := 1, cells := 0, slots := 0, locals := 22 } : Room) [.ref m, zV z1] (fun H => isO D H m V) (rA m (m + 12)) 0 0 (q_MO_at D m V z1) := by
  refine Ct.of (L := [(0, .ref m), (1, zV z1)]) (by decide) (Nat.le_of_ble_eq_true rfl) rfl (fun M H ho hr hnm hH hpre => ?_)
  have hW := hpre
  obtain ⟨o_fo, o_di, o_az, o_t, o_b, o_p, o_u, o_c, o_e, o_y, a_o, a_n, a_h, a_s, a_t, a_b, a_p, a_u, a_x, a_c, a_e, a_y, a_k⟩ := id hW
  have n_o := a_n.ok
  have n_1 := n_o.1
  have n_2 := n_o.2.1
  have n_3 := n_o.2.2
  have h_b := a_h.b
  refine x_iload_n ho 1 d_MO_at_0 rfl ?_
  refine x_iconst ho d_MO_at_1 ?_
  refine x_aload_n ho 0 d_MO_at_2 rfl ?_
  refine x_callV (rest := [zV 0, zV z1]) ho d_MO_at_3 yv_MO_length g_862 g_31 g_861 (c_MO_length M.2.1 D m ((V.2.2.2.1.length : Int)) V.2.2.1 o_fo o_di ((V.2.2.2.2.length : Int)) o_az V.1 ) rfl rfl ⟨Nat.le_of_ble_eq_true rfl, Nat.le_of_ble_eq_true rfl⟩ ⟨Nat.le_of_ble_eq_true rfl, Nat.le_of_ble_eq_true rfl⟩ rfl rfl (Nat.le_of_ble_eq_true rfl) a_o rfl rfl ⟨a_o, a_n⟩ fr_none' (x_rd (fun v_1 hv_1 => ?_))
  obtain ⟨rfl, lb_3⟩ := hv_1
  show X _ _ _ _ _ _ _ _ _ [zV ((V.1.2.1.length : Int)), zV 0, zV z1] _
  refine x_iconst ho d_MO_at_6 ?_
  refine x_isub ho d_MO_at_7 ?_
  refine x_callS (rest := []) ho d_MO_at_8 yv_MO_in g_823 g_822 (c_MO_in M.2.1 D z1 0 (((V.1.2.1.length : Int)) - 1) (by omega) (by omega) (by omega)) rfl rfl ⟨Nat.le_of_ble_eq_true rfl, Nat.le_of_ble_eq_true rfl⟩ ⟨Nat.le_of_ble_eq_true rfl, Nat.le_of_ble_eq_true rfl⟩ rfl rfl (Nat.le_of_ble_eq_true rfl) trivial fr_none' (x_rd (fun v_4 hv_4 => ?_))
  obtain rfl := hv_4
  show X _ _ _ _ _ _ _ _ _ [zV (bI (0 ≤ z1 ∧ z1 ≤ (((V.1.2.1.length : Int)) - 1)))] _
  refine x_if_eqB (tgt := 22) ho d_MO_at_11 (by decide) (fun c_11 => ?_) (fun c_11 => ?_)
  ·
    refine x_iconst ho d_MO_at_22 ?_
    refine x_iret ho hr d_MO_at_23 ?_
    exact ⟨rI (by unfold r_at; rw [lat_out (by omega)]), isO_mk a_o a_n a_h a_s a_t a_b a_p a_u a_x a_c a_e a_y a_k⟩
  ·
    refine x_aload_n ho 0 d_MO_at_14 rfl ?_
    refine x_iload_n ho 1 d_MO_at_15 rfl ?_
    refine x_callV (rest := []) ho d_MO_at_16 yv_MO_word g_865 g_32 g_864 (c_MO_word M.2.1 D m ((V.2.2.2.1.length : Int)) V.2.2.1 o_fo o_di ((V.2.2.2.2.length : Int)) o_az V.1 z1 (by omega)) rfl rfl ⟨Nat.le_of_ble_eq_true rfl, Nat.le_of_ble_eq_true rfl⟩ ⟨Nat.le_of_ble_eq_true rfl, Nat.le_of_ble_eq_true rfl⟩ rfl rfl (Nat.le_of_ble_eq_true rfl) a_o rfl rfl ⟨a_o, a_n⟩ fr_none' (x_rd (fun v_6 hv_6 => ?_))
    obtain ⟨rfl, gb_8⟩ := hv_6
    show X _ _ _ _ _ _ _ _ _ [zV (gA V.1.2.1 z1)] _
    refine x_goto (tgt := 23) ho d_MO_at_19 (by decide) ?_
    refine x_iret ho hr d_MO_at_23 ?_
    exact ⟨rI (by unfold r_at; rw [lat_in (by omega) (by omega)]), isO_mk a_o a_n a_h a_s a_t a_b a_p a_u a_x a_c a_e a_y a_k⟩
def q_MO_rule (D : GG) (m : Nat) (V : WV) (z1 : Int) (z2 : Int) : Option Value → Heap → Prop := fun v0 H => v0 = some (zV (r_rule z1 z2 V)) ∧ isO D H m V
theorem yv_MO_rule : Yv y_MO_rule b_MO_rule 3 (Option.some FieldType.int) 2 := ⟨g_941, g_65, by decide, by decide +kernel⟩
set_option maxHeartbeats 4000000 in
set_option maxRecDepth 100000 in
theorem c_MO_rule (l0 : Launch) (D : GG) (m : Nat) (V : WV) (z1 : Int) (z2 : Int) (hz1 : -2147483648 ≤ z1 ∧ z1 ≤ 2147483647) (hz2 : -2147483648 ≤ z2 ∧ z2 ≤ 2147483647) : Ct l0 D y_MO_rule b_MO_rule 3 (Option.some FieldType.int) ({ frames := 4, cells := 0, slots := 0, locals := 91 } : Room) [.ref m, zV z1, zV z2] (fun H => isO D H m V) (rA m (m + 12)) 0 0 (q_MO_rule D m V z1 z2) := by
  refine Ct.of (L := [(0, .ref m), (1, zV z1), (2, zV z2)]) (by decide) (Nat.le_of_ble_eq_true rfl) rfl (fun M H ho hr hnm hH hpre => ?_)
  have hW := hpre
  obtain ⟨o_fo, o_di, o_az, o_t, o_b, o_p, o_u, o_c, o_e, o_y, a_o, a_n, a_h, a_s, a_t, a_b, a_p, a_u, a_x, a_c, a_e, a_y, a_k⟩ := id hW
  have n_o := a_n.ok
  have n_1 := n_o.1
  have n_2 := n_o.2.1
  have n_3 := n_o.2.2
  have h_b := a_h.b
  refine x_iload_n ho 1 d_MO_rule_0 rfl ?_
  refine x_callS (rest := []) ho d_MO_rule_1 yv_MO_no g_856 g_855 (c_MO_no M.2.1 D z1 (by omega)) rfl rfl ⟨Nat.le_of_ble_eq_true rfl, Nat.le_of_ble_eq_true rfl⟩ ⟨Nat.le_of_ble_eq_true rfl, Nat.le_of_ble_eq_true rfl⟩ rfl rfl (Nat.le_of_ble_eq_true rfl) trivial fr_none' (x_rd (fun v_1 hv_1 => ?_))
  obtain rfl := hv_1
  show X _ _ _ _ _ _ _ _ _ [zV (bI (¬ isA z1))] _
  refine x_if_eqB (tgt := 9) ho d_MO_rule_4 (by decide) (fun c_4 => ?_) (fun c_4 => ?_)
  ·
    have z_4 : isA z1 := Classical.not_not.mp c_4
    have hs9 := n_1 z1 z_4.1 z_4.2
    have hla : lat (V.1.1 z1) 0 = gA (V.1.1 z1) 0 := lat_in (by omega) (by omega)
    refine x_iload_n ho 2 d_MO_rule_9 rfl ?_
    rcases (show (z2 < 0 ∨ 3 < z2) ∨ z2 = 0 ∨ z2 = 1 ∨ z2 = 2 ∨ z2 = 3 by omega) with sw_10 | sw_10 | sw_10 | sw_10 | sw_10
    ·
      refine x_tabOut (tgt := 83) ho d_MO_rule_10 (by omega) sw_10 (by decide) ?_
      refine x_bipush (z := (-2)) ho d_MO_rule_83 (by decide) ?_
      refine x_iret ho hr d_MO_rule_85 ?_
      exact ⟨rI (by unfold r_rule; rw [cif_t (z_4), cif_f (by omega), cif_f (by omega), cif_f (by omega), cif_f (by omega)]), isO_mk a_o a_n a_h a_s a_t a_b a_p a_u a_x a_c a_e a_y a_k⟩
    ·
      refine x_tabIn (tgt := 40) (off := 30) ho 0 d_MO_rule_10 sw_10 (by decide) (by decide) rfl (by decide) ?_
      refine x_aload_n ho 0 d_MO_rule_40 rfl ?_
      refine x_iload_n ho 1 d_MO_rule_41 rfl ?_
      refine x_callV (rest := []) ho d_MO_rule_42 yv_MO_size g_829 g_26 g_828 (c_MO_size M.2.1 D m ((V.2.2.2.1.length : Int)) V.2.2.1 o_fo o_di ((V.2.2.2.2.length : Int)) o_az V.1 z1 (by omega)) rfl rfl ⟨Nat.le_of_ble_eq_true rfl, Nat.le_of_ble_eq_true rfl⟩ ⟨Nat.le_of_ble_eq_true rfl, Nat.le_of_ble_eq_true rfl⟩ rfl rfl (Nat.le_of_ble_eq_true rfl) a_o rfl rfl ⟨a_o, a_n⟩ fr_none' (x_rd (fun v_3 hv_3 => ?_))
      obtain ⟨rfl, sb_5⟩ := hv_3
      show X _ _ _ _ _ _ _ _ _ [zV (((V.1.1 z1).length : Int))] _
      refine x_iret ho hr d_MO_rule_45 ?_
      exact ⟨rI (by unfold r_rule; rw [cif_t (z_4), cif_t (by omega)]), isO_mk a_o a_n a_h a_s a_t a_b a_p a_u a_x a_c a_e a_y a_k⟩
    ·
      refine x_tabIn (tgt := 46) (off := 36) ho 1 d_MO_rule_10 sw_10 (by decide) (by decide) rfl (by decide) ?_
      refine x_aload_n ho 0 d_MO_rule_46 rfl ?_
      refine x_iload_n ho 1 d_MO_rule_47 rfl ?_
      refine x_callV (rest := []) ho d_MO_rule_48 yv_MO_lettersIn g_943 g_42 g_942 (c_MO_lettersIn M.2.1 D m ((V.2.2.2.1.length : Int)) V.2.2.1 o_fo o_di ((V.2.2.2.2.length : Int)) o_az V.1 z1 (by omega)) rfl rfl ⟨Nat.le_of_ble_eq_true rfl, Nat.le_of_ble_eq_true rfl⟩ ⟨Nat.le_of_ble_eq_true rfl, Nat.le_of_ble_eq_true rfl⟩ rfl rfl (Nat.le_of_ble_eq_true rfl) a_o rfl rfl ⟨a_o, a_n⟩ fr_none' (x_rd (fun v_6 hv_6 => ?_))
      obtain ⟨rfl, bb_8⟩ := hv_6
      show X _ _ _ _ _ _ _ _ _ [zV (bitL (V.1.1 z1))] _
      refine x_iret ho hr d_MO_rule_51 ?_
      exact ⟨rI (by unfold r_rule; rw [cif_t (z_4), cif_f (by omega), cif_t (by omega)]), isO_mk a_o a_n a_h a_s a_t a_b a_p a_u a_x a_c a_e a_y a_k⟩
    ·
      refine x_tabIn (tgt := 52) (off := 42) ho 2 d_MO_rule_10 sw_10 (by decide) (by decide) rfl (by decide) ?_
      refine x_aload_n ho 0 d_MO_rule_52 rfl ?_
      refine x_iload_n ho 1 d_MO_rule_53 rfl ?_
      refine x_callV (rest := []) ho d_MO_rule_54 yv_MO_reached g_946 g_43 g_945 (c_MO_reached M.2.1 D m ((V.2.2.2.1.length : Int)) V.2.2.1 o_fo o_di ((V.2.2.2.2.length : Int)) o_az V.1 z1 (by omega)) rfl rfl ⟨Nat.le_of_ble_eq_true rfl, Nat.le_of_ble_eq_true rfl⟩ ⟨Nat.le_of_ble_eq_true rfl, Nat.le_of_ble_eq_true rfl⟩ rfl rfl (Nat.le_of_ble_eq_true rfl) a_o rfl rfl ⟨a_o, a_n⟩ fr_none' (x_rd (fun v_9 hv_9 => ?_))
      obtain ⟨rfl, bb_11⟩ := hv_9
      show X _ _ _ _ _ _ _ _ _ [zV (rea V.1.1 z1)] _
      refine x_iret ho hr d_MO_rule_57 ?_
      exact ⟨rI (by unfold r_rule; rw [cif_t (z_4), cif_f (by omega), cif_f (by omega), cif_t (by omega)]), isO_mk a_o a_n a_h a_s a_t a_b a_p a_u a_x a_c a_e a_y a_k⟩
    ·
      refine x_tabIn (tgt := 58) (off := 48) ho 3 d_MO_rule_10 sw_10 (by decide) (by decide) rfl (by decide) ?_
      refine x_aload_n ho 0 d_MO_rule_58 rfl ?_
      refine x_iload_n ho 1 d_MO_rule_59 rfl ?_
      refine x_iconst ho d_MO_rule_60 ?_
      refine x_callV (rest := []) ho d_MO_rule_61 yv_MO_sign g_832 g_27 g_831 (c_MO_sign M.2.1 D m ((V.2.2.2.1.length : Int)) V.2.2.1 o_fo o_di ((V.2.2.2.2.length : Int)) o_az V.1 z1 0 (by omega) (by omega)) rfl rfl ⟨Nat.le_of_ble_eq_true rfl, Nat.le_of_ble_eq_true rfl⟩ ⟨Nat.le_of_ble_eq_true rfl, Nat.le_of_ble_eq_true rfl⟩ rfl rfl (Nat.le_of_ble_eq_true rfl) a_o rfl rfl ⟨a_o, a_n⟩ fr_none' (x_rd (fun v_12 hv_12 => ?_))
      obtain ⟨rfl, gb_14⟩ := hv_12
      show X _ _ _ _ _ _ _ _ _ [zV (gA (V.1.1 z1) 0)] _
      refine x_iload_n ho 1 d_MO_rule_64 rfl ?_
      refine x_icmp_ne (tgt := 81) ho d_MO_rule_65 (by decide) (by omega) (by omega) (fun c_65 => ?_) (fun c_65 => ?_)
      ·
        refine x_iconst ho d_MO_rule_81 ?_
        refine x_iret ho hr d_MO_rule_82 ?_
        exact ⟨rI (by unfold r_rule; rw [cif_t (z_4), cif_f (by omega), cif_f (by omega), cif_f (by omega), cif_t (by omega)]; exact (bI_f (fun q => c_65 (by rw [← hla]; exact q.1))).symm), isO_mk a_o a_n a_h a_s a_t a_b a_p a_u a_x a_c a_e a_y a_k⟩
      ·
        refine x_aload_n ho 0 d_MO_rule_68 rfl ?_
        refine x_iload_n ho 1 d_MO_rule_69 rfl ?_
        refine x_callV (rest := []) ho d_MO_rule_70 yv_MO_size g_829 g_26 g_828 (c_MO_size M.2.1 D m ((V.2.2.2.1.length : Int)) V.2.2.1 o_fo o_di ((V.2.2.2.2.length : Int)) o_az V.1 z1 (by omega)) rfl rfl ⟨Nat.le_of_ble_eq_true rfl, Nat.le_of_ble_eq_true rfl⟩ ⟨Nat.le_of_ble_eq_true rfl, Nat.le_of_ble_eq_true rfl⟩ rfl rfl (Nat.le_of_ble_eq_true rfl) a_o rfl rfl ⟨a_o, a_n⟩ fr_none' (x_rd (fun v_15 hv_15 => ?_))
        obtain ⟨rfl, sb_17⟩ := hv_15
        show X _ _ _ _ _ _ _ _ _ [zV (((V.1.1 z1).length : Int))] _
        refine x_iconst ho d_MO_rule_73 ?_
        refine x_icmp_le (tgt := 81) ho d_MO_rule_74 (by decide) (by omega) (by omega) (fun c_74 => ?_) (fun c_74 => ?_)
        ·
          refine x_iconst ho d_MO_rule_81 ?_
          refine x_iret ho hr d_MO_rule_82 ?_
          exact ⟨rI (by unfold r_rule; rw [cif_t (z_4), cif_f (by omega), cif_f (by omega), cif_f (by omega), cif_t (by omega)]; exact (bI_f (fun q => by omega)).symm), isO_mk a_o a_n a_h a_s a_t a_b a_p a_u a_x a_c a_e a_y a_k⟩
        ·
          refine x_iconst ho d_MO_rule_77 ?_
          refine x_goto (tgt := 82) ho d_MO_rule_78 (by decide) ?_
          refine x_iret ho hr d_MO_rule_82 ?_
          exact ⟨rI (by unfold r_rule; rw [cif_t (z_4), cif_f (by omega), cif_f (by omega), cif_f (by omega), cif_t (by omega)]; exact (bI_t ⟨by rw [hla]; exact c_65, by omega⟩).symm), isO_mk a_o a_n a_h a_s a_t a_b a_p a_u a_x a_c a_e a_y a_k⟩
  ·
    have z_4 : ¬ isA z1 := c_4
    refine x_iconst ho d_MO_rule_7 ?_
    refine x_iret ho hr d_MO_rule_8 ?_
    exact ⟨rI (by unfold r_rule; rw [cif_f (z_4)]), isO_mk a_o a_n a_h a_s a_t a_b a_p a_u a_x a_c a_e a_y a_k⟩
def q_MO_comes (D : GG) (m : Nat) (V : WV) (z1 : Int) : Option Value → Heap → Prop := fun v0 H => v0 = some (zV (r_comes z1 V)) ∧ isO D H m V
theorem yv_MO_comes : Yv y_MO_comes b_MO_comes 2 (Option.some FieldType.int) 1 := ⟨g_1016, g_65, by decide, by decide +kernel⟩
set_option maxHeartbeats 4000000 in
set_option maxRecDepth 100000 in
theorem c_MO_comes (l0 : Launch) (D : GG) (m : Nat) (V : WV) (z1 : Int) (hz1 : -2147483648 ≤ z1 ∧ z1 ≤ 2147483647) : Ct l0 D y_MO_comes b_MO_comes 2 (Option.some FieldType.int) ({ frames := 3, cells := 0, slots := 0, locals := 67 } : Room) [.ref m, zV z1] (fun H => isO D H m V) (rA m (m + 12)) 0 0 (q_MO_comes D m V z1) := by
  refine Ct.of (L := [(0, .ref m), (1, zV z1)]) (by decide) (Nat.le_of_ble_eq_true rfl) rfl (fun M H ho hr hnm hH hpre => ?_)
  have hW := hpre
  obtain ⟨o_fo, o_di, o_az, o_t, o_b, o_p, o_u, o_c, o_e, o_y, a_o, a_n, a_h, a_s, a_t, a_b, a_p, a_u, a_x, a_c, a_e, a_y, a_k⟩ := id hW
  have n_o := a_n.ok
  have n_1 := n_o.1
  have n_2 := n_o.2.1
  have n_3 := n_o.2.2
  have h_b := a_h.b
  refine x_iload_n ho 1 d_MO_comes_0 rfl ?_
  refine x_if_ge (tgt := 7) ho d_MO_comes_1 (by decide) (by omega) (fun c_1 => ?_) (fun c_1 => ?_)
  ·
    obtain ⟨g_f, g_a, g_r, g_p⟩ := id a_n
    refine x_aload_n ho 0 d_MO_comes_7 rfl ?_
    refine x_get 0 ho d_MO_comes_8 cl_MO (by decide) g_757 a_o rfl ?_
    refine x_sipush (z := 337) ho d_MO_comes_11 (by decide) ?_
    refine x_iald ho d_MO_comes_14 g_a (by omega) (by omega) (by omega) ?_
    refine x_eqI (b := (V.1.2.2.length : Int)) (by exact g_r.2.2.1) ?_
    refine x_if_ne (tgt := 21) ho d_MO_comes_15 (by decide) (by omega) (fun c_15 => ?_) (fun c_15 => ?_)
    ·
      refine x_iload_n ho 1 d_MO_comes_21 rfl ?_
      refine x_aload_n ho 0 d_MO_comes_22 rfl ?_
      refine x_callV (rest := [zV z1]) ho d_MO_comes_23 yv_MO_finds g_896 g_37 g_895 (c_MO_finds M.2.1 D m ((V.2.2.2.1.length : Int)) V.2.2.1 o_fo o_di ((V.2.2.2.2.length : Int)) o_az V.1 o_p o_u ) rfl rfl ⟨Nat.le_of_ble_eq_true rfl, Nat.le_of_ble_eq_true rfl⟩ ⟨Nat.le_of_ble_eq_true rfl, Nat.le_of_ble_eq_true rfl⟩ rfl rfl (Nat.le_of_ble_eq_true rfl) a_o rfl rfl ⟨a_o, a_n, a_p, a_u⟩ (fun z hz => by rcases hz with ⟨z1, z2⟩ | ⟨z1, z2⟩ <;> exact rA_in (by omega) (by omega)) (fun v_1 H_3 hv_1 f_2 => ?_)
      have k_4 := a_h.kept (f_2.2 _ a_h.lt (fun z => by rcases z with ⟨z1, z2⟩ | ⟨z1, z2⟩ <;> omega))
      have k_5 := a_s.kept (f_2.2 _ a_s.lt (fun z => by rcases z with ⟨z1, z2⟩ | ⟨z1, z2⟩ <;> omega))
      have k_6 := a_t.kept (f_2.2 _ a_t.lt (fun z => by rcases z with ⟨z1, z2⟩ | ⟨z1, z2⟩ <;> omega))
      have k_7 := a_b.kept (f_2.2 _ a_b.lt (fun z => by rcases z with ⟨z1, z2⟩ | ⟨z1, z2⟩ <;> omega))
      have k_8 := a_x.kept (f_2.2 _ a_x.lt (fun z => by rcases z with ⟨z1, z2⟩ | ⟨z1, z2⟩ <;> omega))
      have k_9 := a_c.kept (f_2.2 _ a_c.lt (fun z => by rcases z with ⟨z1, z2⟩ | ⟨z1, z2⟩ <;> omega))
      have k_10 := a_e.kept (f_2.2 _ a_e.lt (fun z => by rcases z with ⟨z1, z2⟩ | ⟨z1, z2⟩ <;> omega))
      have k_11 := a_y.kept (f_2.2 _ a_y.lt (fun z => by rcases z with ⟨z1, z2⟩ | ⟨z1, z2⟩ <;> omega))
      obtain ⟨p1_12, u1_13, rfl, hb_14, hp_15, hu_16, t_o_17, t_n_18, t_p_19, t_u_20⟩ := hv_1
      show X _ _ _ _ _ _ _ _ _ [zV (((aos V.1.2.1 V.1.2.2).length : Int)), zV z1] _
      have hos : osW V = aos V.1.2.1 V.1.2.2 := aos_ocs (ne_nil c_15)
      have hbb := hb_14
      refine x_icmp_ge (tgt := 38) ho d_MO_comes_26 (by decide) (by omega) (by omega) (fun c_26 => ?_) (fun c_26 => ?_)
      ·
        refine x_bipush (z := (-5)) ho d_MO_comes_38 (by decide) ?_
        refine x_iret ho hr d_MO_comes_40 ?_
        exact ⟨rI (by unfold r_comes; rw [cif_f (by omega), cif_t (by omega), hos, cif_f (by omega)]), isO_mk t_o_17 t_n_18 k_4 k_5 k_6 k_7 t_p_19 t_u_20 k_8 k_9 k_10 k_11 a_k⟩
      ·
        refine x_aload_n ho 0 d_MO_comes_29 rfl ?_
        refine x_get 7 ho d_MO_comes_30 cl_MO (by decide) g_764 t_o_17 rfl ?_
        refine x_iload_n ho 1 d_MO_comes_33 rfl ?_
        refine x_iald ho d_MO_comes_34 t_p_19 (by omega) (by omega) (by omega) ?_
        refine x_eqI (b := gA (aos V.1.2.1 V.1.2.2) z1) (by exact hp_15 z1 (by omega) (by omega)) ?_
        refine x_goto (tgt := 40) ho d_MO_comes_35 (by decide) ?_
        refine x_iret ho hr d_MO_comes_40 ?_
        exact ⟨rI (by unfold r_comes; rw [cif_f (by omega), cif_t (by omega), hos, cif_t (by omega)]), isO_mk t_o_17 t_n_18 k_4 k_5 k_6 k_7 t_p_19 t_u_20 k_8 k_9 k_10 k_11 a_k⟩
    ·
      refine x_bipush (z := (-4)) ho d_MO_comes_18 (by decide) ?_
      refine x_iret ho hr d_MO_comes_20 ?_
      exact ⟨rI (by unfold r_comes; rw [cif_f (by omega), cif_f (by omega)]), isO_mk a_o a_n a_h a_s a_t a_b a_p a_u a_x a_c a_e a_y a_k⟩
  ·
    refine x_bipush (z := (-2)) ho d_MO_comes_4 (by decide) ?_
    refine x_iret ho hr d_MO_comes_6 ?_
    exact ⟨rI (by unfold r_comes; rw [cif_t (by omega)]), isO_mk a_o a_n a_h a_s a_t a_b a_p a_u a_x a_c a_e a_y a_k⟩
def q_MO_row (D : GG) (m : Nat) (V : WV) (z1 : Int) : Option Value → Heap → Prop := fun v0 H => v0 = some (zV (r_row z1 V)) ∧ isO D H m V
theorem yv_MO_row : Yv y_MO_row b_MO_row 2 (Option.some FieldType.int) 1 := ⟨g_1024, g_65, by decide, by decide +kernel⟩
set_option maxHeartbeats 4000000 in
set_option maxRecDepth 100000 in
theorem c_MO_row (l0 : Launch) (D : GG) (m : Nat) (V : WV) (z1 : Int) (hz1 : -2147483648 ≤ z1 ∧ z1 ≤ 2147483647) : Ct l0 D y_MO_row b_MO_row 2 (Option.some FieldType.int) ({ frames := 3, cells := 0, slots := 0, locals := 67 } : Room) [.ref m, zV z1] (fun H => isO D H m V) (rA m (m + 12)) 0 0 (q_MO_row D m V z1) := by
  refine Ct.of (L := [(0, .ref m), (1, zV z1)]) (by decide) (Nat.le_of_ble_eq_true rfl) rfl (fun M H ho hr hnm hH hpre => ?_)
  have hW := hpre
  obtain ⟨o_fo, o_di, o_az, o_t, o_b, o_p, o_u, o_c, o_e, o_y, a_o, a_n, a_h, a_s, a_t, a_b, a_p, a_u, a_x, a_c, a_e, a_y, a_k⟩ := id hW
  have n_o := a_n.ok
  have n_1 := n_o.1
  have n_2 := n_o.2.1
  have n_3 := n_o.2.2
  have h_b := a_h.b
  refine x_iload_n ho 1 d_MO_row_0 rfl ?_
  refine x_if_ge (tgt := 7) ho d_MO_row_1 (by decide) (by omega) (fun c_1 => ?_) (fun c_1 => ?_)
  ·
    obtain ⟨g_f, g_a, g_r, g_p⟩ := id a_n
    refine x_aload_n ho 0 d_MO_row_7 rfl ?_
    refine x_get 0 ho d_MO_row_8 cl_MO (by decide) g_757 a_o rfl ?_
    refine x_sipush (z := 337) ho d_MO_row_11 (by decide) ?_
    refine x_iald ho d_MO_row_14 g_a (by omega) (by omega) (by omega) ?_
    refine x_eqI (b := (V.1.2.2.length : Int)) (by exact g_r.2.2.1) ?_
    refine x_if_ne (tgt := 21) ho d_MO_row_15 (by decide) (by omega) (fun c_15 => ?_) (fun c_15 => ?_)
    ·
      refine x_iload_n ho 1 d_MO_row_21 rfl ?_
      refine x_aload_n ho 0 d_MO_row_22 rfl ?_
      refine x_callV (rest := [zV z1]) ho d_MO_row_23 yv_MO_finds g_896 g_37 g_895 (c_MO_finds M.2.1 D m ((V.2.2.2.1.length : Int)) V.2.2.1 o_fo o_di ((V.2.2.2.2.length : Int)) o_az V.1 o_p o_u ) rfl rfl ⟨Nat.le_of_ble_eq_true rfl, Nat.le_of_ble_eq_true rfl⟩ ⟨Nat.le_of_ble_eq_true rfl, Nat.le_of_ble_eq_true rfl⟩ rfl rfl (Nat.le_of_ble_eq_true rfl) a_o rfl rfl ⟨a_o, a_n, a_p, a_u⟩ (fun z hz => by rcases hz with ⟨z1, z2⟩ | ⟨z1, z2⟩ <;> exact rA_in (by omega) (by omega)) (fun v_1 H_3 hv_1 f_2 => ?_)
      have k_4 := a_h.kept (f_2.2 _ a_h.lt (fun z => by rcases z with ⟨z1, z2⟩ | ⟨z1, z2⟩ <;> omega))
      have k_5 := a_s.kept (f_2.2 _ a_s.lt (fun z => by rcases z with ⟨z1, z2⟩ | ⟨z1, z2⟩ <;> omega))
      have k_6 := a_t.kept (f_2.2 _ a_t.lt (fun z => by rcases z with ⟨z1, z2⟩ | ⟨z1, z2⟩ <;> omega))
      have k_7 := a_b.kept (f_2.2 _ a_b.lt (fun z => by rcases z with ⟨z1, z2⟩ | ⟨z1, z2⟩ <;> omega))
      have k_8 := a_x.kept (f_2.2 _ a_x.lt (fun z => by rcases z with ⟨z1, z2⟩ | ⟨z1, z2⟩ <;> omega))
      have k_9 := a_c.kept (f_2.2 _ a_c.lt (fun z => by rcases z with ⟨z1, z2⟩ | ⟨z1, z2⟩ <;> omega))
      have k_10 := a_e.kept (f_2.2 _ a_e.lt (fun z => by rcases z with ⟨z1, z2⟩ | ⟨z1, z2⟩ <;> omega))
      have k_11 := a_y.kept (f_2.2 _ a_y.lt (fun z => by rcases z with ⟨z1, z2⟩ | ⟨z1, z2⟩ <;> omega))
      obtain ⟨p1_12, u1_13, rfl, hb_14, hp_15, hu_16, t_o_17, t_n_18, t_p_19, t_u_20⟩ := hv_1
      show X _ _ _ _ _ _ _ _ _ [zV (((aos V.1.2.1 V.1.2.2).length : Int)), zV z1] _
      have hos : osW V = aos V.1.2.1 V.1.2.2 := aos_ocs (ne_nil c_15)
      have hrl := rl_e (os := aos V.1.2.1 V.1.2.2)
      have hol2 := hb_14
      have hro : roW V = roo V.1.2.1 (aos V.1.2.1 V.1.2.2) := by unfold roW; rw [hos]
      refine x_iconst ho d_MO_row_26 ?_
      refine x_isub ho d_MO_row_27 ?_
      refine x_icmp_ge (tgt := 40) ho d_MO_row_28 (by decide) (by omega) (by omega) (fun c_28 => ?_) (fun c_28 => ?_)
      ·
        refine x_bipush (z := (-5)) ho d_MO_row_40 (by decide) ?_
        refine x_iret ho hr d_MO_row_42 ?_
        exact ⟨rI (by unfold r_row; rw [cif_f (by omega), cif_t (by omega), hos, cif_f (by omega)]), isO_mk t_o_17 t_n_18 k_4 k_5 k_6 k_7 t_p_19 t_u_20 k_8 k_9 k_10 k_11 a_k⟩
      ·
        refine x_aload_n ho 0 d_MO_row_31 rfl ?_
        refine x_get 9 ho d_MO_row_32 cl_MO (by decide) g_766 t_o_17 rfl ?_
        refine x_iload_n ho 1 d_MO_row_35 rfl ?_
        refine x_iald ho d_MO_row_36 t_u_20 (by omega) (by omega) (by omega) ?_
        refine x_eqI (b := gA (roo V.1.2.1 (aos V.1.2.1 V.1.2.2)) z1) (by exact hu_16 z1 (by omega) (by omega)) ?_
        refine x_goto (tgt := 42) ho d_MO_row_37 (by decide) ?_
        refine x_iret ho hr d_MO_row_42 ?_
        exact ⟨rI (by unfold r_row; rw [cif_f (by omega), cif_t (by omega), hos, cif_t (by omega), hro]), isO_mk t_o_17 t_n_18 k_4 k_5 k_6 k_7 t_p_19 t_u_20 k_8 k_9 k_10 k_11 a_k⟩
    ·
      refine x_bipush (z := (-4)) ho d_MO_row_18 (by decide) ?_
      refine x_iret ho hr d_MO_row_20 ?_
      exact ⟨rI (by unfold r_row; rw [cif_f (by omega), cif_f (by omega)]), isO_mk a_o a_n a_h a_s a_t a_b a_p a_u a_x a_c a_e a_y a_k⟩
  ·
    refine x_bipush (z := (-2)) ho d_MO_row_4 (by decide) ?_
    refine x_iret ho hr d_MO_row_6 ?_
    exact ⟨rI (by unfold r_row; rw [cif_t (by omega)]), isO_mk a_o a_n a_h a_s a_t a_b a_p a_u a_x a_c a_e a_y a_k⟩
def q_MO_count (D : GG) (m : Nat) (V : WV) (z1 : Int) : Option Value → Heap → Prop := fun v0 H => v0 = some (zV (r_count z1 V)) ∧ isO D H m V
theorem yv_MO_count : Yv y_MO_count b_MO_count 2 (Option.some FieldType.int) 1 := ⟨g_1028, g_65, by decide, by decide +kernel⟩
set_option maxHeartbeats 4000000 in
set_option maxRecDepth 100000 in
theorem c_MO_count (l0 : Launch) (D : GG) (m : Nat) (V : WV) (z1 : Int) (hz1 : -2147483648 ≤ z1 ∧ z1 ≤ 2147483647) : Ct l0 D y_MO_count b_MO_count 2 (Option.some FieldType.int) ({ frames := 3, cells := 0, slots := 0, locals := 67 } : Room) [.ref m, zV z1] (fun H => isO D H m V) (rA m (m + 12)) 0 0 (q_MO_count D m V z1) := by
  refine Ct.of (L := [(0, .ref m), (1, zV z1)]) (by decide) (Nat.le_of_ble_eq_true rfl) rfl (fun M H ho hr hnm hH hpre => ?_)
  have hW := hpre
  obtain ⟨o_fo, o_di, o_az, o_t, o_b, o_p, o_u, o_c, o_e, o_y, a_o, a_n, a_h, a_s, a_t, a_b, a_p, a_u, a_x, a_c, a_e, a_y, a_k⟩ := id hW
  have n_o := a_n.ok
  have n_1 := n_o.1
  have n_2 := n_o.2.1
  have n_3 := n_o.2.2
  have h_b := a_h.b
  obtain ⟨g_f, g_a, g_r, g_p⟩ := id a_n
  refine x_iload_n ho 1 d_MO_count_0 rfl ?_
  rcases (show (z1 < 0 ∨ 7 < z1) ∨ z1 = 0 ∨ z1 = 1 ∨ z1 = 2 ∨ z1 = 3 ∨ z1 = 4 ∨ z1 = 5 ∨ z1 = 6 ∨ z1 = 7 by omega) with sw_1 | sw_1 | sw_1 | sw_1 | sw_1 | sw_1 | sw_1 | sw_1 | sw_1
  ·
    refine x_tabOut (tgt := 129) ho d_MO_count_1 (by omega) sw_1 (by decide) ?_
    refine x_bipush (z := (-2)) ho d_MO_count_129 (by decide) ?_
    refine x_iret ho hr d_MO_count_131 ?_
    exact ⟨rI (by unfold r_count; rw [cif_f (by omega), cif_f (by omega), cif_f (by omega), cif_f (by omega), cif_f (by omega), cif_f (by omega), cif_f (by omega), cif_f (by omega)]), isO_mk a_o a_n a_h a_s a_t a_b a_p a_u a_x a_c a_e a_y a_k⟩
  ·
    refine x_tabIn (tgt := 48) (off := 47) ho 0 d_MO_count_1 sw_1 (by decide) (by decide) rfl (by decide) ?_
    refine x_aload_n ho 0 d_MO_count_48 rfl ?_
    refine x_callV (rest := []) ho d_MO_count_49 yv_MO_length g_862 g_31 g_861 (c_MO_length M.2.1 D m ((V.2.2.2.1.length : Int)) V.2.2.1 o_fo o_di ((V.2.2.2.2.length : Int)) o_az V.1 ) rfl rfl ⟨Nat.le_of_ble_eq_true rfl, Nat.le_of_ble_eq_true rfl⟩ ⟨Nat.le_of_ble_eq_true rfl, Nat.le_of_ble_eq_true rfl⟩ rfl rfl (Nat.le_of_ble_eq_true rfl) a_o rfl rfl ⟨a_o, a_n⟩ fr_none' (x_rd (fun v_1 hv_1 => ?_))
    obtain ⟨rfl, lb_3⟩ := hv_1
    show X _ _ _ _ _ _ _ _ _ [zV ((V.1.2.1.length : Int))] _
    refine x_iret ho hr d_MO_count_52 ?_
    exact ⟨rI (by unfold r_count; rw [cif_t (by omega)]), isO_mk a_o a_n a_h a_s a_t a_b a_p a_u a_x a_c a_e a_y a_k⟩
  ·
    refine x_tabIn (tgt := 53) (off := 52) ho 1 d_MO_count_1 sw_1 (by decide) (by decide) rfl (by decide) ?_
    refine x_aload_n ho 0 d_MO_count_53 rfl ?_
    refine x_callV (rest := []) ho d_MO_count_54 yv_MO_lettersOfWord g_1030 g_51 g_1029 (c_MO_lettersOfWord M.2.1 D m ((V.2.2.2.1.length : Int)) V.2.2.1 o_fo o_di ((V.2.2.2.2.length : Int)) o_az V.1 ) rfl rfl ⟨Nat.le_of_ble_eq_true rfl, Nat.le_of_ble_eq_true rfl⟩ ⟨Nat.le_of_ble_eq_true rfl, Nat.le_of_ble_eq_true rfl⟩ rfl rfl (Nat.le_of_ble_eq_true rfl) a_o rfl rfl ⟨a_o, a_n⟩ fr_none' (x_rd (fun v_4 hv_4 => ?_))
    obtain rfl := hv_4
    show X _ _ _ _ _ _ _ _ _ [zV (bitL V.1.2.1)] _
    refine x_iret ho hr d_MO_count_57 ?_
    exact ⟨rI (by unfold r_count; rw [cif_f (by omega), cif_t (by omega)]), isO_mk a_o a_n a_h a_s a_t a_b a_p a_u a_x a_c a_e a_y a_k⟩
  ·
    refine x_tabIn (tgt := 58) (off := 57) ho 2 d_MO_count_1 sw_1 (by decide) (by decide) rfl (by decide) ?_
    refine x_aload_n ho 0 d_MO_count_58 rfl ?_
    refine x_get 0 ho d_MO_count_59 cl_MO (by decide) g_757 a_o rfl ?_
    refine x_sipush (z := 337) ho d_MO_count_62 (by decide) ?_
    refine x_iald ho d_MO_count_65 g_a (by omega) (by omega) (by omega) ?_
    refine x_eqI (b := (V.1.2.2.length : Int)) (by exact g_r.2.2.1) ?_
    refine x_iret ho hr d_MO_count_66 ?_
    exact ⟨rI (by unfold r_count; rw [cif_f (by omega), cif_f (by omega), cif_t (by omega)]), isO_mk a_o a_n a_h a_s a_t a_b a_p a_u a_x a_c a_e a_y a_k⟩
  ·
    refine x_tabIn (tgt := 67) (off := 66) ho 3 d_MO_count_1 sw_1 (by decide) (by decide) rfl (by decide) ?_
    refine x_aload_n ho 0 d_MO_count_67 rfl ?_
    refine x_get 0 ho d_MO_count_68 cl_MO (by decide) g_757 a_o rfl ?_
    refine x_sipush (z := 337) ho d_MO_count_71 (by decide) ?_
    refine x_iald ho d_MO_count_74 g_a (by omega) (by omega) (by omega) ?_
    refine x_eqI (b := (V.1.2.2.length : Int)) (by exact g_r.2.2.1) ?_
    refine x_if_ne (tgt := 83) ho d_MO_count_75 (by decide) (by omega) (fun c_75 => ?_) (fun c_75 => ?_)
    ·
      have hos : osW V = aos V.1.2.1 V.1.2.2 := aos_ocs (ne_nil c_75)
      refine x_aload_n ho 0 d_MO_count_83 rfl ?_
      refine x_callV (rest := []) ho d_MO_count_84 yv_MO_finds g_896 g_37 g_895 (c_MO_finds M.2.1 D m ((V.2.2.2.1.length : Int)) V.2.2.1 o_fo o_di ((V.2.2.2.2.length : Int)) o_az V.1 o_p o_u ) rfl rfl ⟨Nat.le_of_ble_eq_true rfl, Nat.le_of_ble_eq_true rfl⟩ ⟨Nat.le_of_ble_eq_true rfl, Nat.le_of_ble_eq_true rfl⟩ rfl rfl (Nat.le_of_ble_eq_true rfl) a_o rfl rfl ⟨a_o, a_n, a_p, a_u⟩ (fun z hz => by rcases hz with ⟨z1, z2⟩ | ⟨z1, z2⟩ <;> exact rA_in (by omega) (by omega)) (fun v_6 H_8 hv_6 f_7 => ?_)
      have k_9 := a_h.kept (f_7.2 _ a_h.lt (fun z => by rcases z with ⟨z1, z2⟩ | ⟨z1, z2⟩ <;> omega))
      have k_10 := a_s.kept (f_7.2 _ a_s.lt (fun z => by rcases z with ⟨z1, z2⟩ | ⟨z1, z2⟩ <;> omega))
      have k_11 := a_t.kept (f_7.2 _ a_t.lt (fun z => by rcases z with ⟨z1, z2⟩ | ⟨z1, z2⟩ <;> omega))
      have k_12 := a_b.kept (f_7.2 _ a_b.lt (fun z => by rcases z with ⟨z1, z2⟩ | ⟨z1, z2⟩ <;> omega))
      have k_13 := a_x.kept (f_7.2 _ a_x.lt (fun z => by rcases z with ⟨z1, z2⟩ | ⟨z1, z2⟩ <;> omega))
      have k_14 := a_c.kept (f_7.2 _ a_c.lt (fun z => by rcases z with ⟨z1, z2⟩ | ⟨z1, z2⟩ <;> omega))
      have k_15 := a_e.kept (f_7.2 _ a_e.lt (fun z => by rcases z with ⟨z1, z2⟩ | ⟨z1, z2⟩ <;> omega))
      have k_16 := a_y.kept (f_7.2 _ a_y.lt (fun z => by rcases z with ⟨z1, z2⟩ | ⟨z1, z2⟩ <;> omega))
      obtain ⟨p1_17, u1_18, rfl, hb_19, hp_20, hu_21, t_o_22, t_n_23, t_p_24, t_u_25⟩ := hv_6
      show X _ _ _ _ _ _ _ _ _ [zV (((aos V.1.2.1 V.1.2.2).length : Int))] _
      refine x_iret ho hr d_MO_count_87 ?_
      exact ⟨rI (by unfold r_count; rw [cif_f (by omega), cif_f (by omega), cif_f (by omega), cif_t (by omega), cif_t (by omega), hos]), isO_mk t_o_22 t_n_23 k_9 k_10 k_11 k_12 t_p_24 t_u_25 k_13 k_14 k_15 k_16 a_k⟩
    ·
      refine x_bipush (z := (-5)) ho d_MO_count_78 (by decide) ?_
      refine x_goto (tgt := 87) ho d_MO_count_80 (by decide) ?_
      refine x_iret ho hr d_MO_count_87 ?_
      exact ⟨rI (by unfold r_count; rw [cif_f (by omega), cif_f (by omega), cif_f (by omega), cif_t (by omega), cif_f (by omega)]), isO_mk a_o a_n a_h a_s a_t a_b a_p a_u a_x a_c a_e a_y a_k⟩
  ·
    refine x_tabIn (tgt := 88) (off := 87) ho 4 d_MO_count_1 sw_1 (by decide) (by decide) rfl (by decide) ?_
    refine x_aload_n ho 0 d_MO_count_88 rfl ?_
    refine x_callV (rest := []) ho d_MO_count_89 yv_MO_finds g_896 g_37 g_895 (c_MO_finds M.2.1 D m ((V.2.2.2.1.length : Int)) V.2.2.1 o_fo o_di ((V.2.2.2.2.length : Int)) o_az V.1 o_p o_u ) rfl rfl ⟨Nat.le_of_ble_eq_true rfl, Nat.le_of_ble_eq_true rfl⟩ ⟨Nat.le_of_ble_eq_true rfl, Nat.le_of_ble_eq_true rfl⟩ rfl rfl (Nat.le_of_ble_eq_true rfl) a_o rfl rfl ⟨a_o, a_n, a_p, a_u⟩ (fun z hz => by rcases hz with ⟨z1, z2⟩ | ⟨z1, z2⟩ <;> exact rA_in (by omega) (by omega)) (fun v_26 H_28 hv_26 f_27 => ?_)
    have k_29 := a_h.kept (f_27.2 _ a_h.lt (fun z => by rcases z with ⟨z1, z2⟩ | ⟨z1, z2⟩ <;> omega))
    have k_30 := a_s.kept (f_27.2 _ a_s.lt (fun z => by rcases z with ⟨z1, z2⟩ | ⟨z1, z2⟩ <;> omega))
    have k_31 := a_t.kept (f_27.2 _ a_t.lt (fun z => by rcases z with ⟨z1, z2⟩ | ⟨z1, z2⟩ <;> omega))
    have k_32 := a_b.kept (f_27.2 _ a_b.lt (fun z => by rcases z with ⟨z1, z2⟩ | ⟨z1, z2⟩ <;> omega))
    have k_33 := a_x.kept (f_27.2 _ a_x.lt (fun z => by rcases z with ⟨z1, z2⟩ | ⟨z1, z2⟩ <;> omega))
    have k_34 := a_c.kept (f_27.2 _ a_c.lt (fun z => by rcases z with ⟨z1, z2⟩ | ⟨z1, z2⟩ <;> omega))
    have k_35 := a_e.kept (f_27.2 _ a_e.lt (fun z => by rcases z with ⟨z1, z2⟩ | ⟨z1, z2⟩ <;> omega))
    have k_36 := a_y.kept (f_27.2 _ a_y.lt (fun z => by rcases z with ⟨z1, z2⟩ | ⟨z1, z2⟩ <;> omega))
    obtain ⟨p1_37, u1_38, rfl, hb_39, hp_40, hu_41, t_o_42, t_n_43, t_p_44, t_u_45⟩ := hv_26
    show X _ _ _ _ _ _ _ _ _ [zV (((aos V.1.2.1 V.1.2.2).length : Int))] _
    refine x_pop ho d_MO_count_92 rfl ?_
    obtain ⟨g_f2, g_a2, g_r2, g_p2⟩ := id t_n_43
    refine x_aload_n ho 0 d_MO_count_93 rfl ?_
    refine x_get 0 ho d_MO_count_94 cl_MO (by decide) g_757 t_o_42 rfl ?_
    refine x_sipush (z := 337) ho d_MO_count_97 (by decide) ?_
    refine x_iald ho d_MO_count_100 g_a2 (by omega) (by omega) (by omega) ?_
    refine x_eqI (b := (V.1.2.2.length : Int)) (by exact g_r2.2.2.1) ?_
    refine x_if_ne (tgt := 109) ho d_MO_count_101 (by decide) (by omega) (fun c_101 => ?_) (fun c_101 => ?_)
    ·
      have hos : osW V = aos V.1.2.1 V.1.2.2 := aos_ocs (ne_nil c_101)
      refine x_aload_n ho 0 d_MO_count_109 rfl ?_
      refine x_get 10 ho d_MO_count_110 cl_MO (by decide) g_767 t_o_42 rfl ?_
      refine x_iret ho hr d_MO_count_113 ?_
      exact ⟨rI (by unfold r_count; rw [cif_f (by omega), cif_f (by omega), cif_f (by omega), cif_f (by omega), cif_t (by omega), cif_t (by omega)]; unfold fiW; rw [hos]), isO_mk t_o_42 t_n_43 k_29 k_30 k_31 k_32 t_p_44 t_u_45 k_33 k_34 k_35 k_36 a_k⟩
    ·
      refine x_bipush (z := (-5)) ho d_MO_count_104 (by decide) ?_
      refine x_goto (tgt := 113) ho d_MO_count_106 (by decide) ?_
      refine x_iret ho hr d_MO_count_113 ?_
      exact ⟨rI (by unfold r_count; rw [cif_f (by omega), cif_f (by omega), cif_f (by omega), cif_f (by omega), cif_t (by omega), cif_f (by omega)]), isO_mk t_o_42 t_n_43 k_29 k_30 k_31 k_32 t_p_44 t_u_45 k_33 k_34 k_35 k_36 a_k⟩
  ·
    refine x_tabIn (tgt := 114) (off := 113) ho 5 d_MO_count_1 sw_1 (by decide) (by decide) rfl (by decide) ?_
    refine x_aload_n ho 0 d_MO_count_114 rfl ?_
    refine x_callV (rest := []) ho d_MO_count_115 yv_MO_allSizes g_845 g_30 g_844 (c_MO_allSizes M.2.1 D m ((V.2.2.2.1.length : Int)) V.2.2.1 o_fo o_di ((V.2.2.2.2.length : Int)) o_az V.1 ) rfl rfl ⟨Nat.le_of_ble_eq_true rfl, Nat.le_of_ble_eq_true rfl⟩ ⟨Nat.le_of_ble_eq_true rfl, Nat.le_of_ble_eq_true rfl⟩ rfl rfl (Nat.le_of_ble_eq_true rfl) a_o rfl rfl ⟨a_o, a_n⟩ fr_none' (x_rd (fun v_46 hv_46 => ?_))
    obtain rfl := hv_46
    show X _ _ _ _ _ _ _ _ _ [zV (tot V.1.1)] _
    refine x_iret ho hr d_MO_count_118 ?_
    exact ⟨rI (by unfold r_count; rw [cif_f (by omega), cif_f (by omega), cif_f (by omega), cif_f (by omega), cif_f (by omega), cif_t (by omega)]), isO_mk a_o a_n a_h a_s a_t a_b a_p a_u a_x a_c a_e a_y a_k⟩
  ·
    refine x_tabIn (tgt := 119) (off := 118) ho 6 d_MO_count_1 sw_1 (by decide) (by decide) rfl (by decide) ?_
    refine x_aload_n ho 0 d_MO_count_119 rfl ?_
    refine x_get 2 ho d_MO_count_120 cl_MO (by decide) g_759 a_o rfl ?_
    refine x_iret ho hr d_MO_count_123 ?_
    exact ⟨rI (by unfold r_count; rw [cif_f (by omega), cif_f (by omega), cif_f (by omega), cif_f (by omega), cif_f (by omega), cif_f (by omega), cif_t (by omega)]), isO_mk a_o a_n a_h a_s a_t a_b a_p a_u a_x a_c a_e a_y a_k⟩
  ·
    refine x_tabIn (tgt := 124) (off := 123) ho 7 d_MO_count_1 sw_1 (by decide) (by decide) rfl (by decide) ?_
    refine x_aload_n ho 0 d_MO_count_124 rfl ?_
    refine x_get 11 ho d_MO_count_125 cl_MO (by decide) g_768 a_o rfl ?_
    refine x_iret ho hr d_MO_count_128 ?_
    exact ⟨rI (by unfold r_count; rw [cif_f (by omega), cif_f (by omega), cif_f (by omega), cif_f (by omega), cif_f (by omega), cif_f (by omega), cif_f (by omega), cif_t (by omega)]), isO_mk a_o a_n a_h a_s a_t a_b a_p a_u a_x a_c a_e a_y a_k⟩
