-- THE MODEL: one object, eleven arrays
theorem zC_0 {α : Type} (f g : Int → α) (sp dp : Int) : zC f g sp dp 0 = g := by
  funext j
  exact zC_out f g (by omega)
theorem zC_i {α : Type} {f g : Int → α} {sp dp n j i : Int} (h : dp ≤ j ∧ j < dp + n) (e : i = sp + (j - dp)) : zC f g sp dp n j = f i := by rw [e]; exact zC_in f g h.1 h.2
theorem zC_s {α : Type} {f g : Int → α} {sp dp n i : Int} {w : α} (h : 0 ≤ n) (hi : i = dp + n) (hw : w = f (sp + n)) : zU (zC f g sp dp n) i w = zC f g sp dp (n + 1) := by
  funext j
  by_cases hj : j = i
  · subst hj
    rw [zU_s, hw, zC_i (i := sp + n) (by omega) (by omega)]
  · rw [zU_n _ _ hj]
    by_cases h1 : dp ≤ j ∧ j < dp + n
    · rw [zC_in f g h1.1 h1.2, zC_in f g h1.1 (by omega)]
    · rw [zC_out f g (by omega), zC_out f g (by omega)]
theorem zC_at {D : GG} {H : Heap} {a N : Nat} {f g : Int → Int} {sp dp n i w : Int} (x : At D H a (oI D N (zU (zC f g sp dp n) i w))) (h : 0 ≤ n) (hi : i = dp + n) (hw : w = f (sp + n)) : At D H a (oI D N (zC f g sp dp (n + 1))) := by rw [← zC_s h hi hw]; exact x
def rpR (f : Int → Int) (c : Int → List Int) : Prop := ∀ l : Int, 0 ≤ l → l < 4 → f (9 * l) = ((c l).length : Int) ∧ ∀ k : Int, 0 ≤ k → k < ((c l).length : Int) → f (9 * l + 1 + k) = gA (c l) k
def rpW (f : Int → Int) (a b : Int) (L : List Int) : Prop := f a = (L.length : Int) ∧ ∀ k : Int, 0 ≤ k → k < (L.length : Int) → f (b + k) = gA L k
def rpS (f : Int → Int) (v : SV) : Prop := rpR f v.1 ∧ rpW f 36 37 v.2.1 ∧ rpW f 337 338 v.2.2
def okR (c : Int → List Int) : Prop := ∀ l : Int, 0 ≤ l → l < 4 → 1 ≤ ((c l).length : Int) ∧ ((c l).length : Int) ≤ 8 ∧ wf (c l)
def okS (v : SV) : Prop := okR v.1 ∧ (1 ≤ (v.2.1.length : Int) ∧ (v.2.1.length : Int) ≤ 300 ∧ wf v.2.1) ∧ (v.2.2.length : Int) ≤ 20 ∧ wf v.2.2
def isN (D : GG) (H : Heap) (a : Nat) (v : SV) : Prop := ∃ f : Int → Int, At D H a (oI D 358 f) ∧ rpS f v ∧ okS v
theorem isN.kept {D : GG} {H H1 : Heap} {a : Nat} {v : SV} (h : isN D H a v) (hq : H1[a]? = H[a]?) : isN D H1 a v := by
  obtain ⟨f, h1, h2⟩ := h
  exact ⟨f, h1.kept hq, h2⟩
theorem isN.lt {D : GG} {H : Heap} {a : Nat} {v : SV} (h : isN D H a v) : a < H.size := by
  obtain ⟨f, h1, h2⟩ := h
  exact h1.lt
theorem isN.ok {D : GG} {H : Heap} {a : Nat} {v : SV} (h : isN D H a v) : okS v := by
  obtain ⟨f, h1, h2, h3⟩ := h
  exact h3
/-- the history: the k-th state from 358 k on -/
def rpH (f : Int → Int) (l : List SV) : Prop := ∀ j : Int, 0 ≤ j → j < (l.length : Int) → rpS (fun i => f (358 * j + i)) (gH l j)
def isHm (D : GG) (H : Heap) (a : Nat) (l : List SV) : Prop := ∃ f : Int → Int, At D H a (oI D 1432 f) ∧ rpH f l ∧ l.length ≤ 4 ∧ ∀ y ∈ l, okS y
theorem isHm.kept {D : GG} {H H1 : Heap} {a : Nat} {l : List SV} (h : isHm D H a l) (hq : H1[a]? = H[a]?) : isHm D H1 a l := by
  obtain ⟨f, h1, h2⟩ := h
  exact ⟨f, h1.kept hq, h2⟩
theorem isHm.lt {D : GG} {H : Heap} {a : Nat} {l : List SV} (h : isHm D H a l) : a < H.size := by
  obtain ⟨f, h1, h2⟩ := h
  exact h1.lt
theorem isHm.b {D : GG} {H : Heap} {a : Nat} {l : List SV} (h : isHm D H a l) : l.length ≤ 4 ∧ ∀ y ∈ l, okS y := by
  obtain ⟨f, h1, h2, h3⟩ := h
  exact h3
def isSl (D : GG) (H : Heap) (a : Nat) (k : Int) (v : SV) : Prop := ∃ f : Int → Int, At D H a (oI D 358 f) ∧ (k = 1 → rpS f v ∧ okS v)
theorem isSl.kept {D : GG} {H H1 : Heap} {a : Nat} {k : Int} {v : SV} (h : isSl D H a k v) (hq : H1[a]? = H[a]?) : isSl D H1 a k v := by
  obtain ⟨f, h1, h2⟩ := h
  exact ⟨f, h1.kept hq, h2⟩
theorem isSl.lt {D : GG} {H : Heap} {a : Nat} {k : Int} {v : SV} (h : isSl D H a k v) : a < H.size := by
  obtain ⟨f, h1, h2⟩ := h
  exact h1.lt
def isTx (D : GG) (H : Heap) (a : Nat) (L : List Int) : Prop := (∃ f : Int → Int, At D H a (oC D 60 f) ∧ ∀ j : Int, 0 ≤ j → j < (L.length : Int) → f j = gA L j) ∧ L.length ≤ 60 ∧ ∀ x ∈ L, 0 ≤ x ∧ x < 65536
theorem isTx.kept {D : GG} {H H1 : Heap} {a : Nat} {L : List Int} (h : isTx D H a L) (hq : H1[a]? = H[a]?) : isTx D H1 a L := by
  obtain ⟨⟨f, h1, h2⟩, h3⟩ := h
  exact ⟨⟨f, h1.kept hq, h2⟩, h3⟩
theorem isTx.lt {D : GG} {H : Heap} {a : Nat} {L : List Int} (h : isTx D H a L) : a < H.size := by
  obtain ⟨⟨f, h1, h2⟩, h3⟩ := h
  exact h1.lt
def isO (D : GG) (H : Heap) (m : Nat) (V : WV) : Prop := ∃ (fo di az : Int) (t b p u c e y : Int → Int),
  At D H m (oO 11 [.ref (m + 1), .ref (m + 2), zV ((V.2.2.2.1.length : Int)), .ref (m + 3), zV V.2.2.1, .ref (m + 4), .ref (m + 5), .ref (m + 6), zV fo, .ref (m + 7), zV di, zV ((V.2.2.2.2.length : Int)), .ref (m + 8), zV az, .ref (m + 9), .ref (m + 10), .ref (m + 11)]) ∧
  isN D H (m + 1) V.1 ∧ isHm D H (m + 2) V.2.2.2.1 ∧ isSl D H (m + 3) V.2.2.1 V.2.1 ∧ At D H (m + 4) (oI D 301 t) ∧ At D H (m + 5) (oI D 301 b) ∧ At D H (m + 6) (oI D 300 p) ∧ At D H (m + 7) (oI D 300 u) ∧ isTx D H (m + 8) V.2.2.2.2 ∧ At D H (m + 9) (oI D 16 c) ∧ At D H (m + 10) (oI D 16 e) ∧ At D H (m + 11) (oI D 4 y) ∧ (V.2.2.1 = 0 ∨ V.2.2.1 = 1)
theorem isO.lt {D : GG} {H : Heap} {m : Nat} {V : WV} (h : isO D H m V) : m + 11 < H.size := by
  obtain ⟨fo, di, az, t, b, p, u, c, e, y, h1, h2, h3, h4, h5, h6, h7, h8, h9, h10, h11, h12, h13⟩ := h
  exact h12.lt
theorem isO.o {D : GG} {H : Heap} {m : Nat} {V : WV} (h : isO D H m V) : ∃ fs : List Value, At D H m (oO 11 fs) := by
  obtain ⟨fo, di, az, t, b, p, u, c, e, y, h1, h2⟩ := h
  exact ⟨_, h1⟩
theorem isO.kept {D : GG} {H H1 : Heap} {m : Nat} {V : WV} (h : isO D H m V) (hq : ∀ q : Nat, m ≤ q → q < m + 12 → H1[q]? = H[q]?) : isO D H1 m V := by
  obtain ⟨fo, di, az, t, b, p, u, c, e, y, h1, h2, h3, h4, h5, h6, h7, h8, h9, h10, h11, h12, h13⟩ := h
  exact ⟨fo, di, az, t, b, p, u, c, e, y, h1.kept (hq _ (by omega) (by omega)), h2.kept (hq _ (by omega) (by omega)), h3.kept (hq _ (by omega) (by omega)), h4.kept (hq _ (by omega) (by omega)), h5.kept (hq _ (by omega) (by omega)), h6.kept (hq _ (by omega) (by omega)), h7.kept (hq _ (by omega) (by omega)), h8.kept (hq _ (by omega) (by omega)), h9.kept (hq _ (by omega) (by omega)), h10.kept (hq _ (by omega) (by omega)), h11.kept (hq _ (by omega) (by omega)), h12.kept (hq _ (by omega) (by omega)), h13⟩
theorem isO_mk {D : GG} {H : Heap} {m : Nat} {V : WV} {fo di az : Int} {t b p u c e y : Int → Int}
  (h1 : At D H m (oO 11 [.ref (m + 1), .ref (m + 2), zV ((V.2.2.2.1.length : Int)), .ref (m + 3), zV V.2.2.1, .ref (m + 4), .ref (m + 5), .ref (m + 6), zV fo, .ref (m + 7), zV di, zV ((V.2.2.2.2.length : Int)), .ref (m + 8), zV az, .ref (m + 9), .ref (m + 10), .ref (m + 11)]))
  (h2 : isN D H (m + 1) V.1) (h3 : isHm D H (m + 2) V.2.2.2.1) (h4 : isSl D H (m + 3) V.2.2.1 V.2.1) (h5 : At D H (m + 4) (oI D 301 t)) (h6 : At D H (m + 5) (oI D 301 b)) (h7 : At D H (m + 6) (oI D 300 p)) (h8 : At D H (m + 7) (oI D 300 u)) (h9 : isTx D H (m + 8) V.2.2.2.2) (h10 : At D H (m + 9) (oI D 16 c)) (h11 : At D H (m + 10) (oI D 16 e)) (h12 : At D H (m + 11) (oI D 4 y)) (h13 : V.2.2.1 = 0 ∨ V.2.2.1 = 1) : isO D H m V :=
  ⟨fo, di, az, t, b, p, u, c, e, y, h1, h2, h3, h4, h5, h6, h7, h8, h9, h10, h11, h12, h13⟩
theorem ok0 : okS sv0 := ⟨fun l a b => ⟨Int.le_refl 1, by show (1 : Int) ≤ 8; omega, wf_one a b⟩, ⟨Int.le_refl 1, by show (1 : Int) ≤ 300; omega, wf_one (Int.le_refl 0) (by omega)⟩, by show (0 : Int) ≤ 20; omega, wf_nil⟩
theorem rp0 {f : Int → Int} (h : ∀ j : Int, 0 ≤ j → j < 358 → f j = if j = 0 ∨ j = 1 - 1 ∨ j = 9 ∨ j = 10 ∨ j = 18 ∨ j = 27 ∨ j = 36 then 1 else if j = 19 then 2 else if j = 28 then 3 else 0) : rpS f sv0 := by
  refine ⟨in4 ?_ ?_ ?_ ?_, ⟨?_, ?_⟩, ?_, ?_⟩
  · refine ⟨by rw [h _ (by omega) (by omega)]; rfl, fun k a b => ?_⟩
    have b' : k < 1 := b
    rw [show k = 0 by omega, h _ (by omega) (by omega)]; rfl
  · refine ⟨by rw [h _ (by omega) (by omega)]; rfl, fun k a b => ?_⟩
    have b' : k < 1 := b
    rw [show k = 0 by omega, h _ (by omega) (by omega)]; rfl
  · refine ⟨by rw [h _ (by omega) (by omega)]; rfl, fun k a b => ?_⟩
    have b' : k < 1 := b
    rw [show k = 0 by omega, h _ (by omega) (by omega)]; rfl
  · refine ⟨by rw [h _ (by omega) (by omega)]; rfl, fun k a b => ?_⟩
    have b' : k < 1 := b
    rw [show k = 0 by omega, h _ (by omega) (by omega)]; rfl
  · rw [h _ (by omega) (by omega)]; rfl
  · intro k a b
    have b' : k < 1 := b
    rw [show k = 0 by omega, h _ (by omega) (by omega)]; rfl
  · rw [h _ (by omega) (by omega)]; rfl
  · intro k a b
    have b' : k < 0 := b
    omega
-- copying
theorem rpS_all {f g : Int → Int} {v : SV} {s x : Int} (h : rpS (fun i => g (s + i)) v) (hv : okS v) (hx : x = 358) : rpS (zC g f s 0 x) v := by
  subst hx
  obtain ⟨h1, h2, h3⟩ := h
  obtain ⟨o1, o2, o3⟩ := hv
  refine ⟨fun l a b => ?_, ⟨?_, fun k a b => ?_⟩, ?_, fun k a b => ?_⟩
  · have := o1 l a b
    refine ⟨?_, fun k c d => ?_⟩
    · rw [zC_i (i := s + 9 * l) (by omega) (by omega)]; exact (h1 l a b).1
    · rw [zC_i (i := s + (9 * l + 1 + k)) (by omega) (by omega)]; exact (h1 l a b).2 k c d
  · rw [zC_i (i := s + 36) (by omega) (by omega)]; exact h2.1
  · rw [zC_i (i := s + (37 + k)) (by omega) (by omega)]; exact h2.2 k a b
  · rw [zC_i (i := s + 337) (by omega) (by omega)]; exact h3.1
  · rw [zC_i (i := s + (338 + k)) (by omega) (by omega)]; exact h3.2 k a b
theorem rpS_off {f : Int → Int} {v : SV} (h : rpS f v) : rpS (fun i => f (0 + i)) v := by
  rw [show (fun i => f (0 + i)) = f from funext fun i => by rw [Int.zero_add]]
  exact h
theorem rpS_cg {f g : Int → Int} {v : SV} (h : rpS f v) (hv : okS v) (e : ∀ j : Int, 0 ≤ j → j < 358 → g j = f j) : rpS g v := by
  obtain ⟨h1, h2, h3⟩ := h
  obtain ⟨o1, o2, o3⟩ := hv
  refine ⟨fun l a b => ?_, ⟨?_, fun k a b => ?_⟩, ?_, fun k a b => ?_⟩
  · have := o1 l a b
    exact ⟨by rw [e _ (by omega) (by omega)]; exact (h1 l a b).1, fun k c d => by rw [e _ (by omega) (by omega)]; exact (h1 l a b).2 k c d⟩
  · rw [e _ (by omega) (by omega)]; exact h2.1
  · rw [e _ (by omega) (by omega)]; exact h2.2 k a b
  · rw [e _ (by omega) (by omega)]; exact h3.1
  · rw [e _ (by omega) (by omega)]; exact h3.2 k a b
theorem rp_layR {t f : Int → Int} {c : Int → List Int} {v : SV} {x : Int} (ht : rpR t c) (hc : okR c) (hv : rpS f v) (hx : x = 36) : rpS (zC t f 0 0 x) (c, v.2) := by
  subst hx
  obtain ⟨h1, h2, h3⟩ := hv
  refine ⟨fun l a b => ?_, ⟨?_, fun k a b => ?_⟩, ?_, fun k a b => ?_⟩
  · have := hc l a b
    refine ⟨?_, fun k d e => ?_⟩
    · rw [zC_i (i := 9 * l) (by omega) (by omega)]; exact (ht l a b).1
    · have e' : k < ((c l).length : Int) := e
      rw [zC_i (i := 9 * l + 1 + k) (by omega) (by omega)]; exact (ht l a b).2 k d e
  · rw [zC_out _ _ (by omega)]; exact h2.1
  · rw [zC_out _ _ (by omega)]; exact h2.2 k a b
  · rw [zC_out _ _ (by omega)]; exact h3.1
  · rw [zC_out _ _ (by omega)]; exact h3.2 k a b
theorem rp_takeR {t f : Int → Int} {v : SV} {x : Int} (hv : rpS f v) (ok : okS v) (hx : x = 36) : rpR (zC f t 0 0 x) v.1 := by
  subst hx
  intro l a b
  have := ok.1 l a b
  refine ⟨?_, fun k c d => ?_⟩
  · rw [zC_i (i := 9 * l) (by omega) (by omega)]; exact (hv.1 l a b).1
  · rw [zC_i (i := 9 * l + 1 + k) (by omega) (by omega)]; exact (hv.1 l a b).2 k c d
theorem rp_layW {t f : Int → Int} {w : List Int} {v : SV} {x : Int} (ht : rpW t 0 1 w) (hw : (w.length : Int) ≤ 300) (hc : okR v.1) (hv : rpS f v) (hx : x = (w.length : Int) + 1) : rpS (zC t f 0 36 x) (v.1, w, v.2.2) := by
  subst hx
  obtain ⟨h1, h2, h3⟩ := hv
  refine ⟨fun l a b => ?_, ⟨?_, fun k a b => ?_⟩, ?_, fun k a b => ?_⟩
  · have := hc l a b
    refine ⟨?_, fun k d e => ?_⟩
    · rw [zC_out _ _ (by omega)]; exact (h1 l a b).1
    · have e' : k < ((v.1 l).length : Int) := e
      rw [zC_out _ _ (by omega)]; exact (h1 l a b).2 k d e
  · rw [zC_i (i := 0) (by omega) (by omega)]; exact ht.1
  · have b' : k < (w.length : Int) := b
    rw [zC_i (i := 1 + k) (by omega) (by omega)]; exact ht.2 k a b
  · rw [zC_out _ _ (by omega)]; exact h3.1
  · rw [zC_out _ _ (by omega)]; exact h3.2 k a b
theorem rp_takeW {t f : Int → Int} {v : SV} {x : Int} (hv : rpS f v) (hx : x = (v.2.1.length : Int) + 1) : rpW (zC f t 36 0 x) 0 1 v.2.1 := by
  subst hx
  refine ⟨?_, fun k a b => ?_⟩
  · rw [zC_i (i := 36) (by omega) (by omega)]; exact hv.2.1.1
  · rw [zC_i (i := 37 + k) (by omega) (by omega)]; exact hv.2.1.2 k a b
theorem and_b1 {s : Int} (h : s = 0 ∨ s = 1) : andI s 1 = s := by rcases h with rfl | rfl <;> decide
theorem and_b0 {s : Int} (h : s = 0 ∨ s = 1) : andI s 0 = 0 := by rcases h with rfl | rfl <;> decide
theorem li_ext4 {c c' : Int → List Int} {i : Int} (hl : ((c i).length : Int) = ((c' i).length : Int)) (hg : ∀ j : Int, 0 ≤ j → j < ((c' i).length : Int) → gA (c i) j = gA (c' i) j) : c i = c' i := li_ext hl (fun j a b => hg j a (by rw [← hl]; exact b))
-- the history
theorem rpH_undo {h : Int → Int} {l : List SV} (hh : rpH h l) (hb : l.length ≤ 4) : rpH h l.dropLast := by
  intro j a b
  have b' : j < ((l.dropLast).length : Int) := b
  rw [List.length_dropLast] at b'
  rw [gH_dropLast a (by omega)]
  exact hh j a (by omega)
theorem mo_mem {l : List SV} {j : Int} (a : 0 ≤ j) (b : j < (l.length : Int)) : gH l j ∈ l := by
  unfold gH
  rw [List.getD_eq_getElem?_getD, List.getElem?_eq_getElem (by omega)]
  exact List.getElem_mem _
theorem mo_app1 {l : List SV} {v : SV} {j : Int} (a : 0 ≤ j) (b : j < (l.length : Int)) : gH (l ++ [v]) j = gH l j := by
  unfold gH
  rw [List.getD_eq_getElem?_getD, List.getD_eq_getElem?_getD, List.getElem?_append_left (by omega)]
theorem mo_last {l : List SV} {v : SV} : gH (l ++ [v]) ((l.length : Int)) = v := by
  unfold gH
  rw [List.getD_eq_getElem?_getD, List.getElem?_append_right (by omega)]
  simp
theorem rpH_app {h f : Int → Int} {l : List SV} {v : SV} {x : Int} (hh : rpH h l) (hb : (l.length : Int) < 4) (ho : ∀ y ∈ l, okS y) (hv : rpS f v) (ov : okS v) (hx : x = 358) : rpH (zC f h 0 (358 * (l.length : Int)) x) (l ++ [v]) := by
  subst hx
  intro j a b
  have b' : j < ((l ++ [v]).length : Int) := b
  rw [List.length_append] at b'
  simp only [List.length_cons, List.length_nil] at b'
  by_cases hj : j = (l.length : Int)
  · subst hj
    rw [mo_last]
    refine rpS_cg hv ov (fun i c d => ?_)
    rw [zC_i (i := i) (by omega) (by omega)]
  · rw [mo_app1 a (by omega)]
    refine rpS_cg (hh j a (by omega)) (ho _ (mo_mem a (by omega))) (fun i c d => ?_)
    rw [zC_out _ _ (by omega)]
theorem rpH_drop {h : Int → Int} {l : List SV} {x : Int} (hh : rpH h l) (hb : l.length = 4) (ho : ∀ y ∈ l, okS y) (hx : x = 1074) : rpH (zC h h 358 0 x) (l.drop 1) := by
  subst hx
  intro j a b
  have b' : j < ((l.drop 1).length : Int) := b
  rw [List.length_drop] at b'
  have e : gH (l.drop 1) j = gH l (j + 1) := by
    unfold gH
    rw [List.getD_eq_getElem?_getD, List.getD_eq_getElem?_getD, List.getElem?_drop, show (j + 1).toNat = 1 + j.toNat by omega]
  rw [e]
  refine rpS_cg (hh (j + 1) (by omega) (by omega)) (ho _ (mo_mem (by omega) (by omega))) (fun i c d => ?_)
  rw [zC_i (i := 358 * (j + 1) + i) (by omega) (by omega)]
