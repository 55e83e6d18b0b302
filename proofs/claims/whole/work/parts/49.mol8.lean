def sat (z : Int) : Int := if 1000000 < z then 1000001 else z
theorem sat_r {z : Int} (h : 0 ≤ z) : 0 ≤ sat z ∧ sat z ≤ 1000001 := by unfold sat; split <;> omega
theorem sat_lo {z : Int} (h : ¬ 1000000 < z) : sat z = z := if_neg h
theorem sat_hi {z : Int} (h : 1000000 < z) : sat z = 1000001 := if_pos h
def slF (f : Int → Int) : List Int → Int
  | [] => 0
  | x :: xs => f x + slF f xs
theorem slF_app (f : Int → Int) (A B : List Int) : slF f (A ++ B) = slF f A + slF f B := by
  induction A with
  | nil => show slF f B = 0 + slF f B; omega
  | cons x A ih => show f x + slF f (A ++ B) = f x + slF f A + slF f B; omega
theorem slF_nx {f : Int → Int} {L : List Int} {k : Int} (h0 : 0 ≤ k) (h1 : k < (L.length : Int)) : slF f (tk L (k + 1)) = slF f (tk L k) + f (gA L k) := by
  rw [tk_succ h0 h1, slF_app]
  show slF f (tk L k) + (f (gA L k) + 0) = _
  omega
theorem slF_cg {f g : Int → Int} {L : List Int} (h : ∀ x ∈ L, f x = g x) : slF f L = slF g L := by
  induction L with
  | nil => rfl
  | cons x L ih => show f x + slF f L = g x + slF g L; rw [h x List.mem_cons_self, ih (fun y hy => h y (List.mem_cons_of_mem _ hy))]
theorem sat_sl {f : Int → Int} {L : List Int} (h : ∀ x ∈ L, 0 ≤ f x) : sat (slF (fun y => sat (f y)) L) = sat (slF f L) := by
  have hx : 0 ≤ slF f L ∧ (slF f L ≤ 1000000 → slF (fun y => sat (f y)) L = slF f L) ∧ (1000000 < slF f L → 1000000 < slF (fun y => sat (f y)) L) ∧ 0 ≤ slF (fun y => sat (f y)) L := by
    induction L with
    | nil => exact ⟨Int.le_refl _, fun _ => rfl, fun q => q, Int.le_refl _⟩
    | cons x L ih =>
      have i := ih (fun y hy => h y (List.mem_cons_of_mem _ hy))
      have hf := h x List.mem_cons_self
      show 0 ≤ f x + slF f L ∧ (f x + slF f L ≤ 1000000 → sat (f x) + slF (fun y => sat (f y)) L = f x + slF f L) ∧ (1000000 < f x + slF f L → 1000000 < sat (f x) + slF (fun y => sat (f y)) L) ∧ 0 ≤ sat (f x) + slF (fun y => sat (f y)) L
      unfold sat at *
      split <;> (refine ⟨?_, ?_, ?_, ?_⟩ <;> omega)
  unfold sat at *
  split <;> split <;> omega
theorem slF_add (f g : Int → Int) (L : List Int) : slF (fun y => f y + g y) L = slF f L + slF g L := by
  induction L with
  | nil => rfl
  | cons x L ih => show f x + g x + slF (fun y => f y + g y) L = f x + slF f L + (g x + slF g L); omega
theorem slF_mul (f : Int → Int) (a : Int) (L : List Int) : slF (fun y => f y * a) L = slF f L * a := by
  induction L with
  | nil => show (0 : Int) = 0 * a; rw [Int.zero_mul]
  | cons x L ih => show f x * a + slF (fun y => f y * a) L = (f x + slF f L) * a; rw [ih, Int.add_mul]
theorem slF_cn {j : Int} {L : List Int} : slF (fun y => if j = y then 1 else 0) L = cn L j := by
  induction L with
  | nil => rfl
  | cons x L ih =>
    show (if j = x then 1 else 0) + slF (fun y => if j = y then 1 else 0) L = cn (x :: L) j
    rw [ih]
    unfold cn
    rw [List.count_cons]
    by_cases h : j = x
    · subst h
      rw [if_pos rfl, if_pos (by simp)]; omega
    · rw [if_neg h, if_neg (by simpa using fun q => h q.symm)]; omega
theorem tN_left {c : Int → List Int} {x : Int} (hx : 0 ≤ x ∧ x < 4) (hw : wf (c x)) (n : Nat) : ∀ j : Int, 0 ≤ j → j < 4 → tN c x (n + 1) j = slF (fun y => tN c y n j) (c x) := by
  induction n with
  | zero =>
    intro j _ _
    rw [show (fun y => tN c y 0 j) = (fun y => if j = y then 1 else 0) from rfl, slF_cn]
    show psN c (fun j => if j = x then 1 else 0) j 4 = _
    rw [psN_e]
    rcases (show x = 0 ∨ x = 1 ∨ x = 2 ∨ x = 3 by omega) with rfl | rfl | rfl | rfl <;> simp
  | succ n ih =>
    intro j h0 h1
    show psN c (tN c x (n + 1)) j 4 = slF (fun y => psN c (tN c y n) j 4) (c x)
    rw [psN_e, ih 0 (by omega) (by omega), ih 1 (by omega) (by omega), ih 2 (by omega) (by omega), ih 3 (by omega) (by omega)]
    rw [← slF_mul, ← slF_mul, ← slF_mul, ← slF_mul, ← slF_add, ← slF_add, ← slF_add]
    refine slF_cg (fun y _ => ?_)
    rw [psN_e]
def cqR (C : Int → Int) (c : Int → List Int) (n : Nat) : Prop := ∀ q : Int, 0 ≤ q → q < 16 → C q = sat (tN c (q / 4) n (q % 4))
theorem cq_at {C : Int → Int} {c : Int → List Int} {n : Nat} {a x i : Int} (h : cqR C c n) (ha : 0 ≤ a ∧ a < 4) (hx : 0 ≤ x ∧ x < 4) (e : i = 4 * a + x) : C i = sat (tN c a n x) := by
  subst e
  rw [h _ (by omega) (by omega), show (4 * a + x) / 4 = a by omega, show (4 * a + x) % 4 = x by omega]
theorem cq_0 {C : Int → Int} {c : Int → List Int} (h : ∀ q : Int, 0 ≤ q → q < 16 → C q = if q % 5 = 0 then 1 else 0) : cqR C c 0 := fun q a b => by
  rw [h q a b]
  show _ = sat (if q % 4 = q / 4 then 1 else 0)
  by_cases hq : q % 5 = 0
  · rw [if_pos hq, if_pos (by omega)]; rfl
  · rw [if_neg hq, if_neg (by omega)]; rfl
theorem cq_nx {C : Int → Int} {c : Int → List Int} {n : Nat} {x s : Int} (h : cqR C c n) (hc : okR c) (hx : 0 ≤ x ∧ x < 16) (hs : s = slF (fun y => C (4 * y + x % 4)) (c (x / 4))) : sat s = sat (tN c (x / 4) (n + 1) (x % 4)) := by
  have hk := hc (x / 4) (by omega) (by omega)
  rw [hs, tN_left ⟨by omega, by omega⟩ hk.2.2 n (x % 4) (by omega) (by omega), ← sat_sl (fun y _ => tN_0 c y n _)]
  congr 1
  exact slF_cg (fun y hy => cq_at h (hk.2.2 y hy) ⟨by omega, by omega⟩ rfl)
theorem cq_r {C : Int → Int} {c : Int → List Int} {n : Nat} {q : Int} (h : cqR C c n) (h0 : 0 ≤ q) (h1 : q < 16) : 0 ≤ C q ∧ C q ≤ 1000001 := by
  rw [h q h0 h1]
  exact sat_r (tN_0 _ _ _ _)
theorem sat_4 {t : Int → Int} (h : ∀ j : Int, 0 ≤ t j) : sat (sat (t 0) + sat (t 1) + sat (t 2) + sat (t 3)) = sat (su t) := by
  rw [su_e]
  have h0 := h 0; have h1 := h 1; have h2 := h 2; have h3 := h 3
  unfold sat
  (repeat' split) <;> omega
theorem su_ge {t : Int → Int} (h : ∀ j : Int, 0 ≤ t j) {j : Int} (h0 : 0 ≤ j) (h1 : j < 4) : t j ≤ su t := by
  rw [su_e]
  have a0 := h 0; have a1 := h 1; have a2 := h 2; have a3 := h 3
  rcases (show j = 0 ∨ j = 1 ∨ j = 2 ∨ j = 3 by omega) with rfl | rfl | rfl | rfl <;> omega
theorem su_p {t : Int → Int} (h : ∀ j : Int, 0 ≤ t j) : 0 ≤ su t := by
  rw [su_e]
  have a0 := h 0; have a1 := h 1; have a2 := h 2; have a3 := h 3
  omega
theorem andc_N : ∀ a, a < 16 → ∀ b, b < 16 → (andI ((a : Nat) : Int) (15 - ((b : Nat) : Int)) = 0 ↔ andI ((b : Nat) : Int) ((a : Nat) : Int) = ((a : Nat) : Int)) := by decide +kernel
theorem andc {a b : Int} (ha : 0 ≤ a ∧ a < 16) (hb : 0 ≤ b ∧ b < 16) : andI a (15 - b) = 0 ↔ andI b a = a := by
  have := andc_N a.toNat (by omega) b.toNat (by omega)
  rw [show ((a.toNat : Nat) : Int) = a by omega, show ((b.toNat : Nat) : Int) = b by omega] at this
  exact this
theorem lbN_nx {c : Int → List Int} {s n : Int} (h : 1 ≤ n) : lbN c s n.toNat = led c (lbN c s (n - 1).toNat) := by
  rw [show n.toNat = (n - 1).toNat + 1 by omega, lbN]
