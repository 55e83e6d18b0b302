/-- the image of a word -/
def imW (c : Int → List Int) (L : List Int) : List Int := L.flatMap c
theorem imW_snoc (c : Int → List Int) (L : List Int) (x : Int) : imW c (L ++ [x]) = imW c L ++ c x := by
  unfold imW
  rw [List.flatMap_append]
  simp
theorem imW_split (c : Int → List Int) (L : List Int) (i : Int) : ∃ B, imW c L = imW c (tk L i) ++ B := by
  refine ⟨imW c (L.drop i.toNat), ?_⟩
  unfold imW tk
  rw [← List.flatMap_append, List.take_append_drop]
theorem tk_pre {A B : List Int} {n : Int} (h : n ≤ (A.length : Int)) : tk (A ++ B) n = tk A n := by
  unfold tk
  rw [List.take_append]
  have e : n.toNat - A.length = 0 := by omega
  rw [e, List.take_zero, List.append_nil]
theorem app_len (A B : List Int) : ((A ++ B).length : Int) = (A.length : Int) + (B.length : Int) := by
  rw [List.length_append]; omega
theorem wf_imW {c : Int → List Int} {L : List Int} (hc : ∀ i : Int, 0 ≤ i → i < 4 → wf (c i)) (hL : wf L) : wf (imW c L) := fun x hx => by
  obtain ⟨y, hy, hz⟩ := List.mem_flatMap.mp hx
  have hw := hL y hy
  exact hc y hw.1 hw.2 x hz
theorem imW_c {c c' : Int → List Int} {L : List Int} (hL : wf L) (h : ∀ i : Int, 0 ≤ i → i < 4 → c i = c' i) : imW c L = imW c' L := by
  unfold imW
  induction L with
  | nil => rfl
  | cons x L ih =>
    have hx := hL x List.mem_cons_self
    rw [List.flatMap_cons, List.flatMap_cons, h x hx.1 hx.2, ih (fun y hy => hL y (List.mem_cons_of_mem _ hy))]
-- sets
def hasB (s x : Int) : Prop := ¬ andI s (sh x) = 0
def shrI (s l : Int) : Int := ((s.toNat >>> l.toNat : Nat) : Int)
section SETR
variable {D : GG} {M : MX} {R : Room} {cc : ByteArray} {nL : Nat} {own : String} {A : Nat → Prop} {cs sl : Nat} {Q : State → Prop} {pc : Nat} {L : List (Nat × Value)} {st : List Value} {H : Heap}
theorem xor_N : ∀ b, b < 16 → zI ((b : Nat) : Int) ^^^ zI (-1) = zI (-1 - (b : Int)) := by decide +kernel
theorem andn_N : ∀ a, a < 16 → ∀ b, b < 16 → zI ((a : Nat) : Int) &&& zI (-1 - ((b : Nat) : Int)) = zI (andI (a : Int) (15 - (b : Int))) := by decide +kernel
theorem shr_N : ∀ a, a < 16 → ∀ b, b < 4 → zI ((a : Nat) : Int) >>> (zI ((b : Nat) : Int) &&& 31) = zI (shrI (a : Int) (b : Int)) ∧ shrI (a : Int) (b : Int) < 16 := by decide +kernel
theorem bit_N : ∀ a, a < 16 → ∀ b, b < 4 → (andI (shrI ((a : Nat) : Int) ((b : Nat) : Int)) 1 = 1 ∨ andI (shrI ((a : Nat) : Int) ((b : Nat) : Int)) 1 = 0) ∧ (andI (shrI ((a : Nat) : Int) ((b : Nat) : Int)) 1 = 1 ↔ ¬ andI ((a : Nat) : Int) (sh ((b : Nat) : Int)) = 0) := by decide +kernel
theorem shr_16 {s l : Int} (hs : 0 ≤ s ∧ s < 16) (hl : 0 ≤ l ∧ l < 4) : 0 ≤ shrI s l ∧ shrI s l < 16 := by
  have := (shr_N s.toNat (by omega) l.toNat (by omega)).2
  rw [show ((s.toNat : Nat) : Int) = s by omega, show ((l.toNat : Nat) : Int) = l by omega] at this
  exact ⟨Int.natCast_nonneg _, this⟩
theorem bit_has {s l : Int} (hs : 0 ≤ s ∧ s < 16) (hl : 0 ≤ l ∧ l < 4) : andI (shrI s l) 1 = bI (hasB s l) := by
  have := bit_N s.toNat (by omega) l.toNat (by omega)
  rw [show ((s.toNat : Nat) : Int) = s by omega, show ((l.toNat : Nat) : Int) = l by omega] at this
  obtain ⟨h1, h2⟩ := this
  rcases h1 with h | h
  · rw [h]; exact (bI_t (P := hasB s l) (h2.mp h)).symm
  · rw [h]; exact (bI_f (P := hasB s l) (fun q => by rw [h2.mpr q] at h; omega)).symm
theorem x_xorm1 {b : Int} (ho : Ok D M cc nL own) (hd : decode cc pc = .ok (.ixor, 1)) (hb : 0 ≤ b ∧ b < 16) (k : X M R nL A cs sl Q (pc + 1) L (zV (-1 - b) :: st) H) : X M R nL A cs sl Q pc L (zV (-1) :: zV b :: st) H := fun ls locs h1 h2 h3 => by
  refine lv_ixor ho.1 ho.2.1 hd ?_
  have e := xor_N b.toNat (by omega)
  rw [show ((b.toNat : Nat) : Int) = b by omega] at e
  rw [e]
  exact k ls locs h1 h2 h3
theorem x_andn16 {a b : Int} (ho : Ok D M cc nL own) (hd : decode cc pc = .ok (.iand, 1)) (ha : 0 ≤ a ∧ a < 16) (hb : 0 ≤ b ∧ b < 16) (k : X M R nL A cs sl Q (pc + 1) L (zV (andI a (15 - b)) :: st) H) : X M R nL A cs sl Q pc L (zV (-1 - b) :: zV a :: st) H := fun ls locs h1 h2 h3 => by
  refine lv_iand ho.1 ho.2.1 hd ?_
  have e := andn_N a.toNat (by omega) b.toNat (by omega)
  rw [show ((a.toNat : Nat) : Int) = a by omega, show ((b.toNat : Nat) : Int) = b by omega] at e
  rw [e]
  exact k ls locs h1 h2 h3
theorem x_shr16 {a b : Int} (ho : Ok D M cc nL own) (hd : decode cc pc = .ok (.ishr, 1)) (ha : 0 ≤ a ∧ a < 16) (hb : 0 ≤ b ∧ b < 4) (k : X M R nL A cs sl Q (pc + 1) L (zV (shrI a b) :: st) H) : X M R nL A cs sl Q pc L (zV b :: zV a :: st) H := fun ls locs h1 h2 h3 => by
  refine lv_ishr ho.1 ho.2.1 hd ?_
  have e := (shr_N a.toNat (by omega) b.toNat (by omega)).1
  rw [show ((a.toNat : Nat) : Int) = a by omega, show ((b.toNat : Nat) : Int) = b by omega] at e
  rw [e]
  exact k ls locs h1 h2 h3
end SETR
/-- the letters to which those of a set lead -/
def ledN (c : Int → List Int) (s : Int) : Nat → Int
  | 0 => 0
  | n + 1 => if andI s (sh (n : Int)) = 0 then ledN c s n else orI (ledN c s n) (bitL (c (n : Int)))
def led (c : Int → List Int) (s : Int) : Int := ledN c s 4
theorem ledN_16 {c : Int → List Int} (hc : ∀ i : Int, 0 ≤ i → i < 4 → wf (c i)) (s : Int) : ∀ n : Nat, n ≤ 4 → 0 ≤ ledN c s n ∧ ledN c s n < 16 := by
  intro n
  induction n with
  | zero => intro _; show (0 : Int) ≤ 0 ∧ (0 : Int) < 16; omega
  | succ n ih =>
    intro h
    have h1 := ih (by omega)
    unfold ledN
    split
    · exact h1
    · exact orI_16 h1 (bitL_16 (hc _ (by omega) (by omega)))
theorem led_16 {c : Int → List Int} (hc : ∀ i : Int, 0 ≤ i → i < 4 → wf (c i)) (s : Int) : 0 ≤ led c s ∧ led c s < 16 := ledN_16 hc s 4 (by omega)
def reN (c : Int → List Int) (s : Int) : Nat → Int
  | 0 => s
  | n + 1 => orI (reN c s n) (led c (reN c s n))
/-- the letters that can be reached from a letter -/
def rea (c : Int → List Int) (x : Int) : Int := reN c (sh x) 4
theorem reN_16 {c : Int → List Int} (hc : ∀ i : Int, 0 ≤ i → i < 4 → wf (c i)) {s : Int} (hs : 0 ≤ s ∧ s < 16) : ∀ n : Nat, 0 ≤ reN c s n ∧ reN c s n < 16 := by
  intro n
  induction n with
  | zero => exact hs
  | succ n ih => exact orI_16 ih (led_16 hc _)
/-- the letters of an n-th image -/
def lbN (c : Int → List Int) (s : Int) : Nat → Int
  | 0 => s
  | n + 1 => led c (lbN c s n)
theorem lbN_16 {c : Int → List Int} (hc : ∀ i : Int, 0 ≤ i → i < 4 → wf (c i)) {s : Int} (hs : 0 ≤ s ∧ s < 16) : ∀ n : Nat, 0 ≤ lbN c s n ∧ lbN c s n < 16 := by
  intro n
  cases n with
  | zero => exact hs
  | succ n => exact led_16 hc _
def mixB (c : Int → List Int) (n : Nat) : Prop := ∀ l : Int, 0 ≤ l → l < 4 → hasB (rea c 0) l → andI (rea c 0) (15 - lbN c (sh l) n) = 0
theorem isR.wc {D : GG} {H : Heap} {r : Nat} {p : Int → Nat} {c : Int → List Int} (h : isR D H r p c) : ∀ i : Int, 0 ≤ i → i < 4 → wf (c i) := fun _ h0 h1 => (h.w h0 h1).1
theorem sw_a (a b : Int) : sw a b a = b := if_pos rfl
theorem sw_b (a b : Int) : sw a b b = a := by
  unfold sw
  by_cases h : b = a
  · rw [if_pos h]; exact h
  · rw [if_neg h, if_pos rfl]
theorem sw_o {a b x : Int} (h : x ≠ a) (h2 : x ≠ b) : sw a b x = x := by
  unfold sw; rw [if_neg h, if_neg h2]
theorem sw_i {a b x y : Int} (h : x ≠ y) : sw a b x ≠ sw a b y := by
  unfold sw
  split <;> split <;> (try split) <;> (try split) <;> omega
theorem isR_swap {D : GG} {H H1 : Heap} {r : Nat} {p : Int → Nat} {c : Int → List Int} {a b : Int} (h : isR D H r p c) (ha : 0 ≤ a ∧ a < 4) (hb : 0 ≤ b ∧ b < 4) (hab : a ≠ b) (hn : At D H1 (r + 1) (oR D 3 4 (zU (zU (fun i => some (p i)) a (some (p b))) b (some (p a))))) (hq : ∀ q : Nat, q ≠ r + 1 → H1[q]? = H[q]?) : isR D H1 r (fun i => p (sw a b i)) (fun i => c (sw a b i)) := by
  obtain ⟨h1, h2, h3, h4, h5, h6⟩ := h
  have e : (zU (zU (fun i => some (p i)) a (some (p b))) b (some (p a))) = fun i => some (p (sw a b i)) := by
    funext i
    by_cases hi : i = b
    · subst hi
      rw [zU_s, sw_b]
    · rw [zU_n _ _ hi]
      by_cases hj : i = a
      · subst hj
        rw [zU_s, sw_a]
      · rw [zU_n _ _ hj, sw_o hj hi]
  rw [e] at hn
  refine ⟨h1.kept (hq _ (by omega)), hn, h3.kept (fun q a b => hq q (by omega)), fun i x y => ?_, fun i x y => ?_, fun i j x y z w hne => ?_⟩
  · have hs := sw_r ha hb ⟨x, y⟩
    exact (h4 _ hs.1 hs.2).kept (fun q u v => hq q (by have := h5 _ hs.1 hs.2; omega))
  · have hs := sw_r ha hb ⟨x, y⟩
    exact h5 _ hs.1 hs.2
  · have hs := sw_r ha hb ⟨x, y⟩
    have ht := sw_r ha hb ⟨z, w⟩
    exact h6 _ _ hs.1 hs.2 ht.1 ht.2 (sw_i hne)
