def q_LE_imbalance (D : GG) (o : Nat) (n : Nat) (L : List Int) (z : Int) (s : Int) : Option Value → Heap → Prop := fun v0 H => ∃ (mx : Int) (mn : Int), v0 = some (zV (mx - mn)) ∧ isMM L z s ((L.length : Int)) mx mn
theorem yv_LE_imbalance : Yv y_LE_imbalance b_LE_imbalance 7 (Option.some FieldType.int) 2 := ⟨g_656, g_56, by decide, by decide +kernel⟩
set_option maxHeartbeats 4000000 in
set_option maxRecDepth 100000 in
theorem c_LE_imbalance (l0 : Launch) (D : GG) (o : Nat) (n : Nat) (L : List Int) (z : Int) (s : Int) (hz : 0 ≤ z ∧ z < 4) (hs : 1 ≤ s ∧ s ≤ (L.length : Int)) : Ct l0 D y_LE_imbalance b_LE_imbalance 7 (Option.some FieldType.int) ({ frames := 1, cells := 0, slots := 0, locals := 21 } : Room) [.ref o, zV z, zV s] (fun H => isL D H o n L) nA 0 0 (q_LE_imbalance D o n L z s) := by
  refine Ct.of (L := [(0, .ref o), (1, zV z), (2, zV s)]) (by decide) (Nat.le_of_ble_eq_true rfl) rfl (fun M H ho hr hnm hH hpre => ?_)
  have hL := hpre
  have h_n := hL.b
  have h_w := hL.w
  refine x_iconst ho d_LE_imbalance_0 ?_
  refine x_istore_n (L' := [(3, zV 0), (0, .ref o), (1, zV z), (2, zV s)]) ho d_LE_imbalance_1 (by decide) rfl ?_
  refine x_iconst ho d_LE_imbalance_2 ?_
  refine x_istore (L' := [(4, zV 0), (3, zV 0), (0, .ref o), (1, zV z), (2, zV s)]) ho d_LE_imbalance_3 (by decide) rfl ?_
  refine x_iload_n ho 4 d_LE_imbalance_5 rfl ?_
  refine x_istore (L' := [(5, zV s), (4, zV 0), (3, zV 0), (0, .ref o), (1, zV z), (2, zV s)]) ho d_LE_imbalance_6 (by decide) rfl ?_
  refine x_iconst ho d_LE_imbalance_8 ?_
  refine x_istore (L' := [(6, zV 0), (5, zV s), (4, zV 0), (3, zV 0), (0, .ref o), (1, zV z), (2, zV s)]) ho d_LE_imbalance_9 (by decide) rfl ?_
  have loop_11 : ∀ (kk : Nat) (i : Int) (t : Int) (mo : Int) (le : Int) (i0 : 0 ≤ i ∧ i ≤ (L.length : Int)) (ht : t = cn (tk L i) z - cn (tk L (i - s)) z) (hb : 0 ≤ mo ∧ mo ≤ 300 ∧ 0 ≤ le ∧ le ≤ 300) (h1 : i < s → mo = 0 ∧ le = s) (h2 : s ≤ i → isMM L z s i mo le), ((L.length : Int) - i).toNat < kk → X M ({ frames := 1, cells := 0, slots := 0, locals := 21 } : Room) 7 nA 0 0 (Qof M nA (q_LE_imbalance D o n L z s) 0 0) 11 [(6, zV i), (5, zV le), (4, zV mo), (3, zV t), (0, .ref o), (1, zV z), (2, zV s)] [] H := by
    intro kk
    induction kk with
    | zero => intro i t mo le i0 ht hb h1 h2 hk; exact absurd hk (Nat.not_lt_zero _)
    | succ kk ih_11 =>
      intro i t mo le i0 ht hb h1 h2 hk_11
      refine x_iload ho 0 d_LE_imbalance_11 rfl ?_
      refine x_aload_n ho 4 d_LE_imbalance_13 rfl ?_
      refine x_get 1 ho d_LE_imbalance_14 cl_LE (by decide) g_98 hL.1 rfl ?_
      refine x_icmp_ge (tgt := 78) ho d_LE_imbalance_17 (by decide) (by omega) (by omega) (fun c_17 => ?_) (fun c_17 => ?_)
      ·
        refine x_iload ho 2 d_LE_imbalance_78 rfl ?_
        refine x_iload ho 1 d_LE_imbalance_80 rfl ?_
        refine x_isub ho d_LE_imbalance_82 ?_
        refine x_iret ho hr d_LE_imbalance_83 ?_
        rw [show i = (L.length : Int) by omega] at h2
        exact ⟨mo, le, rfl, h2 (by omega)⟩
      ·
        have a1 := cn_lat (L := L) (i := i) hz.1 (by omega)
        have a2 := cn_lat (L := L) (i := i - s) hz.1 (by omega)
        have hq := cn_d (L := L) (z := z) (s := s) (i := i + 1) hz.1 (by omega) (by omega) (by omega)
        rw [show i + 1 - s = i - s + 1 by omega, a1, a2] at hq
        refine x_aload_n ho 4 d_LE_imbalance_20 rfl ?_
        refine x_iload ho 0 d_LE_imbalance_21 rfl ?_
        refine x_callV (rest := []) ho d_LE_imbalance_23 yv_LE_letterAt g_343 g_344 g_342 (c_LE_letterAt M.2.1 D o n L i (by omega)) rfl rfl ⟨Nat.le_of_ble_eq_true rfl, Nat.le_of_ble_eq_true rfl⟩ ⟨Nat.le_of_ble_eq_true rfl, Nat.le_of_ble_eq_true rfl⟩ rfl rfl (Nat.le_of_ble_eq_true rfl) hL.1 rfl rfl hL fr_none' (x_rd (fun v_1 hv_1 => ?_))
        obtain ⟨rfl, hr_3⟩ := hv_1
        show X _ _ _ _ _ _ _ _ _ [zV (lat L i)] _
        refine x_iload_n ho 5 d_LE_imbalance_26 rfl ?_
        refine x_icmp_ne (tgt := 33) ho d_LE_imbalance_27 (by decide) (by omega) (by omega) (fun c_27 => ?_) (fun c_27 => ?_)
        ·
          rw [bI_f c_27] at a1 hq
          refine x_aload_n ho 4 d_LE_imbalance_33 rfl ?_
          refine x_iload ho 0 d_LE_imbalance_34 rfl ?_
          refine x_iload_n ho 6 d_LE_imbalance_36 rfl ?_
          refine x_isub ho d_LE_imbalance_37 ?_
          refine x_callV (rest := []) ho d_LE_imbalance_38 yv_LE_letterAt g_343 g_344 g_342 (c_LE_letterAt M.2.1 D o n L (i - s) (by omega)) rfl rfl ⟨Nat.le_of_ble_eq_true rfl, Nat.le_of_ble_eq_true rfl⟩ ⟨Nat.le_of_ble_eq_true rfl, Nat.le_of_ble_eq_true rfl⟩ rfl rfl (Nat.le_of_ble_eq_true rfl) hL.1 rfl rfl hL fr_none' (x_rd (fun v_4 hv_4 => ?_))
          obtain ⟨rfl, hr_6⟩ := hv_4
          show X _ _ _ _ _ _ _ _ _ [zV (lat L (i - s))] _
          refine x_iload_n ho 5 d_LE_imbalance_41 rfl ?_
          refine x_icmp_ne (tgt := 48) ho d_LE_imbalance_42 (by decide) (by omega) (by omega) (fun c_42 => ?_) (fun c_42 => ?_)
          ·
            rw [bI_f c_42] at a2 hq
            refine x_iload ho 0 d_LE_imbalance_48 rfl ?_
            refine x_iload_n ho 6 d_LE_imbalance_50 rfl ?_
            refine x_iconst ho d_LE_imbalance_51 ?_
            refine x_isub ho d_LE_imbalance_52 ?_
            refine x_icmp_lt (tgt := 72) ho d_LE_imbalance_53 (by decide) (by omega) (by omega) (fun c_53 => ?_) (fun c_53 => ?_)
            ·
              refine x_iinc (L' := [(6, zV (i + 1)), (5, zV le), (4, zV mo), (3, zV t), (0, .ref o), (1, zV z), (2, zV s)]) ho 0 d_LE_imbalance_72 rfl rfl (by decide) rfl ?_
              refine x_goto (tgt := 11) ho d_LE_imbalance_75 (by decide) ?_
              exact ih_11 (i + 1) t mo le (by omega) (by rw [show i + 1 - s = i - s + 1 by omega, a1, a2]; omega) (by omega) (by intro h; exact h1 (by omega)) (by intro h; omega) (by omega)
            ·
              refine x_iload ho 2 d_LE_imbalance_56 rfl ?_
              refine x_iload_n ho 3 d_LE_imbalance_58 rfl ?_
              refine x_mmax ho d_LE_imbalance_59 g_94 (by omega) (by omega) (Nat.le_of_ble_eq_true rfl) (Nat.le_of_ble_eq_true rfl) (Nat.zero_le _) (Nat.zero_le _) ?_
              refine x_istore (L' := [(4, zV (if mo < t then t else mo)), (6, zV i), (5, zV le), (3, zV t), (0, .ref o), (1, zV z), (2, zV s)]) ho d_LE_imbalance_62 (by decide) rfl ?_
              refine x_iload ho 2 d_LE_imbalance_64 rfl ?_
              refine x_iload_n ho 3 d_LE_imbalance_66 rfl ?_
              refine x_mmin ho d_LE_imbalance_67 g_301 (by omega) (by omega) (Nat.le_of_ble_eq_true rfl) (Nat.le_of_ble_eq_true rfl) (Nat.zero_le _) (Nat.zero_le _) ?_
              refine x_istore (L' := [(5, zV (if t < le then t else le)), (4, zV (if mo < t then t else mo)), (6, zV i), (3, zV t), (0, .ref o), (1, zV z), (2, zV s)]) ho d_LE_imbalance_70 (by decide) rfl ?_
              refine x_iinc (L' := [(6, zV (i + 1)), (5, zV (if t < le then t else le)), (4, zV (if mo < t then t else mo)), (3, zV t), (0, .ref o), (1, zV z), (2, zV s)]) ho 2 d_LE_imbalance_72 rfl rfl (by decide) rfl ?_
              refine x_goto (tgt := 11) ho d_LE_imbalance_75 (by decide) ?_
              exact ih_11 (i + 1) t (if mo < t then t else mo) (if t < le then t else le) (by omega) (by rw [show i + 1 - s = i - s + 1 by omega, a1, a2]; omega) (by omega) (by intro h; omega) (by intro h; exact isMM_step hz.1 (by omega) (by omega) (by omega) (by rw [show i + 1 - s = i - s + 1 by omega, a1, a2]; omega) h1 h2) (by omega)
          ·
            rw [bI_t c_42] at a2 hq
            refine x_iinc (L' := [(3, zV (t + (-1))), (6, zV i), (5, zV le), (4, zV mo), (0, .ref o), (1, zV z), (2, zV s)]) ho 3 d_LE_imbalance_45 rfl rfl (by decide) rfl ?_
            refine x_iload ho 1 d_LE_imbalance_48 rfl ?_
            refine x_iload_n ho 6 d_LE_imbalance_50 rfl ?_
            refine x_iconst ho d_LE_imbalance_51 ?_
            refine x_isub ho d_LE_imbalance_52 ?_
            refine x_icmp_lt (tgt := 72) ho d_LE_imbalance_53 (by decide) (by omega) (by omega) (fun c_53 => ?_) (fun c_53 => ?_)
            ·
              refine x_iinc (L' := [(6, zV (i + 1)), (3, zV (t + (-1))), (5, zV le), (4, zV mo), (0, .ref o), (1, zV z), (2, zV s)]) ho 1 d_LE_imbalance_72 rfl rfl (by decide) rfl ?_
              refine x_goto (tgt := 11) ho d_LE_imbalance_75 (by decide) ?_
              refine x_sub (L' := [(6, zV (i + 1)), (5, zV le), (4, zV mo), (3, zV (t + (-1))), (0, .ref o), (1, zV z), (2, zV s)]) [0, 2, 3, 1, 4, 5, 6] rfl ?_
              exact ih_11 (i + 1) (t + (-1)) mo le (by omega) (by rw [show i + 1 - s = i - s + 1 by omega, a1, a2]; omega) (by omega) (by intro h; exact h1 (by omega)) (by intro h; omega) (by omega)
            ·
              refine x_iload ho 3 d_LE_imbalance_56 rfl ?_
              refine x_iload_n ho 0 d_LE_imbalance_58 rfl ?_
              refine x_mmax ho d_LE_imbalance_59 g_94 (by omega) (by omega) (Nat.le_of_ble_eq_true rfl) (Nat.le_of_ble_eq_true rfl) (Nat.zero_le _) (Nat.zero_le _) ?_
              refine x_istore (L' := [(4, zV (if mo < (t + (-1)) then (t + (-1)) else mo)), (3, zV (t + (-1))), (6, zV i), (5, zV le), (0, .ref o), (1, zV z), (2, zV s)]) ho d_LE_imbalance_62 (by decide) rfl ?_
              refine x_iload ho 3 d_LE_imbalance_64 rfl ?_
              refine x_iload_n ho 1 d_LE_imbalance_66 rfl ?_
              refine x_mmin ho d_LE_imbalance_67 g_301 (by omega) (by omega) (Nat.le_of_ble_eq_true rfl) (Nat.le_of_ble_eq_true rfl) (Nat.zero_le _) (Nat.zero_le _) ?_
              refine x_istore (L' := [(5, zV (if (t + (-1)) < le then (t + (-1)) else le)), (4, zV (if mo < (t + (-1)) then (t + (-1)) else mo)), (3, zV (t + (-1))), (6, zV i), (0, .ref o), (1, zV z), (2, zV s)]) ho d_LE_imbalance_70 (by decide) rfl ?_
              refine x_iinc (L' := [(6, zV (i + 1)), (5, zV (if (t + (-1)) < le then (t + (-1)) else le)), (4, zV (if mo < (t + (-1)) then (t + (-1)) else mo)), (3, zV (t + (-1))), (0, .ref o), (1, zV z), (2, zV s)]) ho 3 d_LE_imbalance_72 rfl rfl (by decide) rfl ?_
              refine x_goto (tgt := 11) ho d_LE_imbalance_75 (by decide) ?_
              exact ih_11 (i + 1) (t + (-1)) (if mo < (t + (-1)) then (t + (-1)) else mo) (if (t + (-1)) < le then (t + (-1)) else le) (by omega) (by rw [show i + 1 - s = i - s + 1 by omega, a1, a2]; omega) (by omega) (by intro h; omega) (by intro h; exact isMM_step hz.1 (by omega) (by omega) (by omega) (by rw [show i + 1 - s = i - s + 1 by omega, a1, a2]; omega) h1 h2) (by omega)
        ·
          rw [bI_t c_27] at a1 hq
          refine x_iinc (L' := [(3, zV (t + 1)), (6, zV i), (5, zV le), (4, zV mo), (0, .ref o), (1, zV z), (2, zV s)]) ho 3 d_LE_imbalance_30 rfl rfl (by decide) rfl ?_
          refine x_aload_n ho 4 d_LE_imbalance_33 rfl ?_
          refine x_iload ho 1 d_LE_imbalance_34 rfl ?_
          refine x_iload_n ho 6 d_LE_imbalance_36 rfl ?_
          refine x_isub ho d_LE_imbalance_37 ?_
          refine x_callV (rest := []) ho d_LE_imbalance_38 yv_LE_letterAt g_343 g_344 g_342 (c_LE_letterAt M.2.1 D o n L (i - s) (by omega)) rfl rfl ⟨Nat.le_of_ble_eq_true rfl, Nat.le_of_ble_eq_true rfl⟩ ⟨Nat.le_of_ble_eq_true rfl, Nat.le_of_ble_eq_true rfl⟩ rfl rfl (Nat.le_of_ble_eq_true rfl) hL.1 rfl rfl hL fr_none' (x_rd (fun v_7 hv_7 => ?_))
          obtain ⟨rfl, hr_9⟩ := hv_7
          show X _ _ _ _ _ _ _ _ _ [zV (lat L (i - s))] _
          refine x_iload_n ho 5 d_LE_imbalance_41 rfl ?_
          refine x_icmp_ne (tgt := 48) ho d_LE_imbalance_42 (by decide) (by omega) (by omega) (fun c_42 => ?_) (fun c_42 => ?_)
          ·
            rw [bI_f c_42] at a2 hq
            refine x_iload ho 1 d_LE_imbalance_48 rfl ?_
            refine x_iload_n ho 6 d_LE_imbalance_50 rfl ?_
            refine x_iconst ho d_LE_imbalance_51 ?_
            refine x_isub ho d_LE_imbalance_52 ?_
            refine x_icmp_lt (tgt := 72) ho d_LE_imbalance_53 (by decide) (by omega) (by omega) (fun c_53 => ?_) (fun c_53 => ?_)
            ·
              refine x_iinc (L' := [(6, zV (i + 1)), (3, zV (t + 1)), (5, zV le), (4, zV mo), (0, .ref o), (1, zV z), (2, zV s)]) ho 1 d_LE_imbalance_72 rfl rfl (by decide) rfl ?_
              refine x_goto (tgt := 11) ho d_LE_imbalance_75 (by decide) ?_
              refine x_sub (L' := [(6, zV (i + 1)), (5, zV le), (4, zV mo), (3, zV (t + 1)), (0, .ref o), (1, zV z), (2, zV s)]) [0, 2, 3, 1, 4, 5, 6] rfl ?_
              exact ih_11 (i + 1) (t + 1) mo le (by omega) (by rw [show i + 1 - s = i - s + 1 by omega, a1, a2]; omega) (by omega) (by intro h; exact h1 (by omega)) (by intro h; omega) (by omega)
            ·
              refine x_iload ho 3 d_LE_imbalance_56 rfl ?_
              refine x_iload_n ho 0 d_LE_imbalance_58 rfl ?_
              refine x_mmax ho d_LE_imbalance_59 g_94 (by omega) (by omega) (Nat.le_of_ble_eq_true rfl) (Nat.le_of_ble_eq_true rfl) (Nat.zero_le _) (Nat.zero_le _) ?_
              refine x_istore (L' := [(4, zV (if mo < (t + 1) then (t + 1) else mo)), (3, zV (t + 1)), (6, zV i), (5, zV le), (0, .ref o), (1, zV z), (2, zV s)]) ho d_LE_imbalance_62 (by decide) rfl ?_
              refine x_iload ho 3 d_LE_imbalance_64 rfl ?_
              refine x_iload_n ho 1 d_LE_imbalance_66 rfl ?_
              refine x_mmin ho d_LE_imbalance_67 g_301 (by omega) (by omega) (Nat.le_of_ble_eq_true rfl) (Nat.le_of_ble_eq_true rfl) (Nat.zero_le _) (Nat.zero_le _) ?_
              refine x_istore (L' := [(5, zV (if (t + 1) < le then (t + 1) else le)), (4, zV (if mo < (t + 1) then (t + 1) else mo)), (3, zV (t + 1)), (6, zV i), (0, .ref o), (1, zV z), (2, zV s)]) ho d_LE_imbalance_70 (by decide) rfl ?_
              refine x_iinc (L' := [(6, zV (i + 1)), (5, zV (if (t + 1) < le then (t + 1) else le)), (4, zV (if mo < (t + 1) then (t + 1) else mo)), (3, zV (t + 1)), (0, .ref o), (1, zV z), (2, zV s)]) ho 3 d_LE_imbalance_72 rfl rfl (by decide) rfl ?_
              refine x_goto (tgt := 11) ho d_LE_imbalance_75 (by decide) ?_
              exact ih_11 (i + 1) (t + 1) (if mo < (t + 1) then (t + 1) else mo) (if (t + 1) < le then (t + 1) else le) (by omega) (by rw [show i + 1 - s = i - s + 1 by omega, a1, a2]; omega) (by omega) (by intro h; omega) (by intro h; exact isMM_step hz.1 (by omega) (by omega) (by omega) (by rw [show i + 1 - s = i - s + 1 by omega, a1, a2]; omega) h1 h2) (by omega)
          ·
            rw [bI_t c_42] at a2 hq
            refine x_iinc (L' := [(3, zV ((t + 1) + (-1))), (6, zV i), (5, zV le), (4, zV mo), (0, .ref o), (1, zV z), (2, zV s)]) ho 0 d_LE_imbalance_45 rfl rfl (by decide) rfl ?_
            refine x_iload ho 1 d_LE_imbalance_48 rfl ?_
            refine x_iload_n ho 6 d_LE_imbalance_50 rfl ?_
            refine x_iconst ho d_LE_imbalance_51 ?_
            refine x_isub ho d_LE_imbalance_52 ?_
            refine x_icmp_lt (tgt := 72) ho d_LE_imbalance_53 (by decide) (by omega) (by omega) (fun c_53 => ?_) (fun c_53 => ?_)
            ·
              refine x_iinc (L' := [(6, zV (i + 1)), (3, zV ((t + 1) + (-1))), (5, zV le), (4, zV mo), (0, .ref o), (1, zV z), (2, zV s)]) ho 1 d_LE_imbalance_72 rfl rfl (by decide) rfl ?_
              refine x_goto (tgt := 11) ho d_LE_imbalance_75 (by decide) ?_
              refine x_sub (L' := [(6, zV (i + 1)), (5, zV le), (4, zV mo), (3, zV ((t + 1) + (-1))), (0, .ref o), (1, zV z), (2, zV s)]) [0, 2, 3, 1, 4, 5, 6] rfl ?_
              exact ih_11 (i + 1) ((t + 1) + (-1)) mo le (by omega) (by rw [show i + 1 - s = i - s + 1 by omega, a1, a2]; omega) (by omega) (by intro h; exact h1 (by omega)) (by intro h; omega) (by omega)
            ·
              refine x_iload ho 3 d_LE_imbalance_56 rfl ?_
              refine x_iload_n ho 0 d_LE_imbalance_58 rfl ?_
              refine x_mmax ho d_LE_imbalance_59 g_94 (by omega) (by omega) (Nat.le_of_ble_eq_true rfl) (Nat.le_of_ble_eq_true rfl) (Nat.zero_le _) (Nat.zero_le _) ?_
              refine x_istore (L' := [(4, zV (if mo < ((t + 1) + (-1)) then ((t + 1) + (-1)) else mo)), (3, zV ((t + 1) + (-1))), (6, zV i), (5, zV le), (0, .ref o), (1, zV z), (2, zV s)]) ho d_LE_imbalance_62 (by decide) rfl ?_
              refine x_iload ho 3 d_LE_imbalance_64 rfl ?_
              refine x_iload_n ho 1 d_LE_imbalance_66 rfl ?_
              refine x_mmin ho d_LE_imbalance_67 g_301 (by omega) (by omega) (Nat.le_of_ble_eq_true rfl) (Nat.le_of_ble_eq_true rfl) (Nat.zero_le _) (Nat.zero_le _) ?_
              refine x_istore (L' := [(5, zV (if ((t + 1) + (-1)) < le then ((t + 1) + (-1)) else le)), (4, zV (if mo < ((t + 1) + (-1)) then ((t + 1) + (-1)) else mo)), (3, zV ((t + 1) + (-1))), (6, zV i), (0, .ref o), (1, zV z), (2, zV s)]) ho d_LE_imbalance_70 (by decide) rfl ?_
              refine x_iinc (L' := [(6, zV (i + 1)), (5, zV (if ((t + 1) + (-1)) < le then ((t + 1) + (-1)) else le)), (4, zV (if mo < ((t + 1) + (-1)) then ((t + 1) + (-1)) else mo)), (3, zV ((t + 1) + (-1))), (0, .ref o), (1, zV z), (2, zV s)]) ho 3 d_LE_imbalance_72 rfl rfl (by decide) rfl ?_
              refine x_goto (tgt := 11) ho d_LE_imbalance_75 (by decide) ?_
              exact ih_11 (i + 1) ((t + 1) + (-1)) (if mo < ((t + 1) + (-1)) then ((t + 1) + (-1)) else mo) (if ((t + 1) + (-1)) < le then ((t + 1) + (-1)) else le) (by omega) (by rw [show i + 1 - s = i - s + 1 by omega, a1, a2]; omega) (by omega) (by intro h; omega) (by intro h; exact isMM_step hz.1 (by omega) (by omega) (by omega) (by rw [show i + 1 - s = i - s + 1 by omega, a1, a2]; omega) h1 h2) (by omega)
  exact loop_11 _ 0 0 0 s (by omega) (by unfold tk; rw [show (0 - s).toNat = 0 by omega]; simp) (by omega) (by intro _; exact ⟨rfl, rfl⟩) (by intro h; omega) (Nat.lt_succ_self _)
