section C13
variable {cy : Nat → ClassId} {ax : Nat → Nat} {hp0 : Hp} {l : Launch} {D : va_G} {base : Nat}
/-- the tree's rows hold the list: cell and level of each node -/
def TR (s : CSt) (L : List (Nat × Nat)) : Prop := s.1 7 = nI L.length ∧ L.length ≤ 60 ∧ ∀ (i : Nat) (x : Nat × Nat), L[i]? = some x → x.1 < 126 ∧ x.2 ≤ i ∧ s.2.1 15 i = nI (x.1 / 21) ∧ s.2.1 16 i = nI (x.1 % 21) ∧ s.2.1 17 i = s.2.1 9 x.1 ∧ s.2.1 18 i = nI x.2
def frT (s s2 : CSt) : Prop := s2.2.2 = s.2.2 ∧ (∀ k, k ≠ 7 → s2.1 k = s.1 k) ∧ (∀ k, k < 15 → s2.2.1 k = s.2.1 k)
theorem frT.rf {s : CSt} : frT s s := ⟨rfl, fun _ _ => rfl, fun _ _ => rfl⟩
theorem frT.tr {a b c : CSt} (h : frT a b) (g : frT b c) : frT a c := ⟨g.1.trans h.1, fun k hk => (g.2.1 k hk).trans (h.2.1 k hk), fun k hk => (g.2.2 k hk).trans (h.2.2 k hk)⟩
theorem frT.ta {k i : Nat} {v : Int32} {s : CSt} (hk : 15 ≤ k) : frT s (ta k i v s) := ⟨rfl, fun _ _ => rfl, fun j hj => (show va_up s.2.1 k (upd (s.2.1 k) i v) j = s.2.1 j from va_up_ne _ _ (by omega))⟩
theorem frT.tset {i c : Nat} {a : Int32} {s : CSt} : frT s (tset i c a s) := (((frT.ta (by decide)).tr (frT.ta (by decide))).tr (frT.ta (by decide))).tr (frT.ta (by decide))
theorem frT.mvr {i m : Nat} {s : CSt} : frT s (mvr i m s) := (((frT.ta (by decide)).tr (frT.ta (by decide))).tr (frT.ta (by decide))).tr (frT.ta (by decide))
theorem frT.szP {z : Int32} {s : CSt} : frT s (szP z s) := ⟨rfl, fun k hk => (show va_up s.1 7 z k = s.1 k from va_up_ne _ _ hk), fun _ _ => rfl⟩
theorem frT.mvl {f m : Nat} : ∀ (k : Nat) (s : CSt), frT s (mvl f m k s)
  | 0, _ => frT.rf
  | k + 1, s => frT.tr frT.mvr (frT.mvl k _)
theorem frT.stl {i : Nat} {ch : Nat → Nat} {a : Int32} : ∀ (j k : Nat) (s : CSt), frT s (stl i ch a j k s)
  | 0, _, _ => frT.rf
  | j + 1, k, s => frT.tr frT.tset (frT.stl j (k + 1) _)
theorem upd_at {f : Nat → Int32} {i j : Nat} {v : Int32} : upd f i v j = if j = i then v else f j := by
  by_cases h : j = i
  · subst h; rw [pk_us, if_pos rfl]
  · rw [pk_un h, if_neg h]
theorem mvl_1 {f m : Nat} : ∀ (k : Nat) (s : CSt), (mvl f m k s).1 = s.1
  | 0, _ => rfl
  | k + 1, s => mvl_1 k (mvr (f + m + k) m s)
theorem stl_1 {i : Nat} {ch : Nat → Nat} {a : Int32} : ∀ (j k : Nat) (s : CSt), (stl i ch a j k s).1 = s.1
  | 0, _, _ => rfl
  | j + 1, k, s => stl_1 j (k + 1) (tset (i + 1 + k) (ch k) a s)
theorem mvl_15 {f m : Nat} (hm : 1 ≤ m) : ∀ (k : Nat) (s : CSt) (j : Nat), (mvl f m k s).2.1 15 j = if f + m ≤ j ∧ j < f + m + k then s.2.1 15 (j - m) else s.2.1 15 j
  | 0, s, j => by
    rw [if_neg (by omega)]
    rfl
  | k + 1, s, j => by
    show (mvl f m k (mvr (f + m + k) m s)).2.1 15 j = _
    rw [mvl_15 hm k]
    have e : ∀ j, (mvr (f + m + k) m s).2.1 15 j = if j = f + m + k then s.2.1 15 (f + m + k - m) else s.2.1 15 j := fun j => (show upd (s.2.1 15) (f + m + k) (s.2.1 15 (f + m + k - m)) j = _ from upd_at)
    rw [e, e]
    by_cases h1 : f + m ≤ j ∧ j < f + m + k
    · rw [if_pos h1, if_neg (by omega), if_pos (by omega)]
    · rw [if_neg h1]
      by_cases h2 : j = f + m + k
      · subst h2
        rw [if_pos rfl, if_pos (by omega)]
      · rw [if_neg h2, if_neg (by omega)]
theorem stl_15 {i : Nat} {ch : Nat → Nat} {a : Int32} : ∀ (j k : Nat) (s : CSt) (p : Nat), (stl i ch a j k s).2.1 15 p = if i + 1 + k ≤ p ∧ p < i + 1 + k + j then nI (ch (p - i - 1) / 21) else s.2.1 15 p
  | 0, k, s, p => by
    rw [if_neg (by omega)]
    rfl
  | j + 1, k, s, p => by
    show (stl i ch a j (k + 1) (tset (i + 1 + k) (ch k) a s)).2.1 15 p = _
    rw [stl_15 j]
    have e : (tset (i + 1 + k) (ch k) a s).2.1 15 p = if p = i + 1 + k then nI (ch k / 21) else s.2.1 15 p := (show upd (s.2.1 15) (i + 1 + k) (nI (ch k / 21)) p = _ from upd_at)
    rw [e]
    by_cases h1 : i + 1 + (k + 1) ≤ p ∧ p < i + 1 + (k + 1) + j
    · rw [if_pos h1, if_pos (by omega)]
    · rw [if_neg h1]
      by_cases h2 : p = i + 1 + k
      · rw [if_pos h2, if_pos (by omega), show p - i - 1 = k by omega]
      · rw [if_neg h2, if_neg (by omega)]
theorem mvl_16 {f m : Nat} (hm : 1 ≤ m) : ∀ (k : Nat) (s : CSt) (j : Nat), (mvl f m k s).2.1 16 j = if f + m ≤ j ∧ j < f + m + k then s.2.1 16 (j - m) else s.2.1 16 j
  | 0, s, j => by
    rw [if_neg (by omega)]
    rfl
  | k + 1, s, j => by
    show (mvl f m k (mvr (f + m + k) m s)).2.1 16 j = _
    rw [mvl_16 hm k]
    have e : ∀ j, (mvr (f + m + k) m s).2.1 16 j = if j = f + m + k then s.2.1 16 (f + m + k - m) else s.2.1 16 j := fun j => (show upd (s.2.1 16) (f + m + k) (s.2.1 16 (f + m + k - m)) j = _ from upd_at)
    rw [e, e]
    by_cases h1 : f + m ≤ j ∧ j < f + m + k
    · rw [if_pos h1, if_neg (by omega), if_pos (by omega)]
    · rw [if_neg h1]
      by_cases h2 : j = f + m + k
      · subst h2
        rw [if_pos rfl, if_pos (by omega)]
      · rw [if_neg h2, if_neg (by omega)]
theorem stl_16 {i : Nat} {ch : Nat → Nat} {a : Int32} : ∀ (j k : Nat) (s : CSt) (p : Nat), (stl i ch a j k s).2.1 16 p = if i + 1 + k ≤ p ∧ p < i + 1 + k + j then nI (ch (p - i - 1) % 21) else s.2.1 16 p
  | 0, k, s, p => by
    rw [if_neg (by omega)]
    rfl
  | j + 1, k, s, p => by
    show (stl i ch a j (k + 1) (tset (i + 1 + k) (ch k) a s)).2.1 16 p = _
    rw [stl_16 j]
    have e : (tset (i + 1 + k) (ch k) a s).2.1 16 p = if p = i + 1 + k then nI (ch k % 21) else s.2.1 16 p := (show upd (s.2.1 16) (i + 1 + k) (nI (ch k % 21)) p = _ from upd_at)
    rw [e]
    by_cases h1 : i + 1 + (k + 1) ≤ p ∧ p < i + 1 + (k + 1) + j
    · rw [if_pos h1, if_pos (by omega)]
    · rw [if_neg h1]
      by_cases h2 : p = i + 1 + k
      · rw [if_pos h2, if_pos (by omega), show p - i - 1 = k by omega]
      · rw [if_neg h2, if_neg (by omega)]
theorem mvl_17 {f m : Nat} (hm : 1 ≤ m) : ∀ (k : Nat) (s : CSt) (j : Nat), (mvl f m k s).2.1 17 j = if f + m ≤ j ∧ j < f + m + k then s.2.1 17 (j - m) else s.2.1 17 j
  | 0, s, j => by
    rw [if_neg (by omega)]
    rfl
  | k + 1, s, j => by
    show (mvl f m k (mvr (f + m + k) m s)).2.1 17 j = _
    rw [mvl_17 hm k]
    have e : ∀ j, (mvr (f + m + k) m s).2.1 17 j = if j = f + m + k then s.2.1 17 (f + m + k - m) else s.2.1 17 j := fun j => (show upd (s.2.1 17) (f + m + k) (s.2.1 17 (f + m + k - m)) j = _ from upd_at)
    rw [e, e]
    by_cases h1 : f + m ≤ j ∧ j < f + m + k
    · rw [if_pos h1, if_neg (by omega), if_pos (by omega)]
    · rw [if_neg h1]
      by_cases h2 : j = f + m + k
      · subst h2
        rw [if_pos rfl, if_pos (by omega)]
      · rw [if_neg h2, if_neg (by omega)]
theorem stl_17 {i : Nat} {ch : Nat → Nat} {a : Int32} : ∀ (j k : Nat) (s : CSt) (p : Nat), (stl i ch a j k s).2.1 17 p = if i + 1 + k ≤ p ∧ p < i + 1 + k + j then s.2.1 9 (ch (p - i - 1)) else s.2.1 17 p
  | 0, k, s, p => by
    rw [if_neg (by omega)]
    rfl
  | j + 1, k, s, p => by
    show (stl i ch a j (k + 1) (tset (i + 1 + k) (ch k) a s)).2.1 17 p = _
    rw [stl_17 j]
    have e : (tset (i + 1 + k) (ch k) a s).2.1 17 p = if p = i + 1 + k then s.2.1 9 (ch k) else s.2.1 17 p := (show upd (s.2.1 17) (i + 1 + k) (s.2.1 9 (ch k)) p = _ from upd_at)
    rw [e]
    by_cases h1 : i + 1 + (k + 1) ≤ p ∧ p < i + 1 + (k + 1) + j
    · rw [if_pos h1, if_pos (by omega)]; rfl
    · rw [if_neg h1]
      by_cases h2 : p = i + 1 + k
      · rw [if_pos h2, if_pos (by omega), show p - i - 1 = k by omega]
      · rw [if_neg h2, if_neg (by omega)]
theorem mvl_18 {f m : Nat} (hm : 1 ≤ m) : ∀ (k : Nat) (s : CSt) (j : Nat), (mvl f m k s).2.1 18 j = if f + m ≤ j ∧ j < f + m + k then s.2.1 18 (j - m) else s.2.1 18 j
  | 0, s, j => by
    rw [if_neg (by omega)]
    rfl
  | k + 1, s, j => by
    show (mvl f m k (mvr (f + m + k) m s)).2.1 18 j = _
    rw [mvl_18 hm k]
    have e : ∀ j, (mvr (f + m + k) m s).2.1 18 j = if j = f + m + k then s.2.1 18 (f + m + k - m) else s.2.1 18 j := fun j => (show upd (s.2.1 18) (f + m + k) (s.2.1 18 (f + m + k - m)) j = _ from upd_at)
    rw [e, e]
    by_cases h1 : f + m ≤ j ∧ j < f + m + k
    · rw [if_pos h1, if_neg (by omega), if_pos (by omega)]
    · rw [if_neg h1]
      by_cases h2 : j = f + m + k
      · subst h2
        rw [if_pos rfl, if_pos (by omega)]
      · rw [if_neg h2, if_neg (by omega)]
theorem stl_18 {i : Nat} {ch : Nat → Nat} {a : Int32} : ∀ (j k : Nat) (s : CSt) (p : Nat), (stl i ch a j k s).2.1 18 p = if i + 1 + k ≤ p ∧ p < i + 1 + k + j then a else s.2.1 18 p
  | 0, k, s, p => by
    rw [if_neg (by omega)]
    rfl
  | j + 1, k, s, p => by
    show (stl i ch a j (k + 1) (tset (i + 1 + k) (ch k) a s)).2.1 18 p = _
    rw [stl_18 j]
    have e : (tset (i + 1 + k) (ch k) a s).2.1 18 p = if p = i + 1 + k then a else s.2.1 18 p := (show upd (s.2.1 18) (i + 1 + k) a p = _ from upd_at)
    rw [e]
    by_cases h1 : i + 1 + (k + 1) ≤ p ∧ p < i + 1 + (k + 1) + j
    · rw [if_pos h1, if_pos (by omega)]
    · rw [if_neg h1]
      by_cases h2 : p = i + 1 + k
      · rw [if_pos h2, if_pos (by omega)]
      · rw [if_neg h2, if_neg (by omega)]
theorem pbl_15 {i m z : Nat} {ch : Nat → Nat} {a : Int32} {s : CSt} (p : Nat) (hi : i < z) (hz : z ≤ 60) (hm : i + m ≤ 59) : (pbl i m z ch a s).2.1 15 p = if p < i + 1 then s.2.1 15 p else if p < i + 1 + m then nI (ch (p - i - 1) / 21) else if p < min (z + m) 60 then s.2.1 15 (p - m) else s.2.1 15 p := by
  unfold pbl
  by_cases h0 : m = 0
  · subst h0
    rw [if_pos rfl]
    show s.2.1 15 p = _
    by_cases h1 : p < i + 1
    · rw [if_pos h1]
    · rw [if_neg h1, if_neg (by omega)]
      split <;> rfl
  · rw [if_neg h0, stl_15, mvl_15 (by omega)]
    by_cases h1 : p < i + 1
    · rw [if_pos h1, if_neg (by omega), if_neg (by omega)]
      rfl
    · rw [if_neg h1]
      by_cases h2 : p < i + 1 + m
      · rw [if_pos h2, if_pos (by omega)]
      · rw [if_neg h2, if_neg (by omega)]
        by_cases h3 : p < min (z + m) 60
        · rw [if_pos h3, if_pos (by omega)]
          rfl
        · rw [if_neg h3, if_neg (by omega)]
          rfl
theorem pbl_16 {i m z : Nat} {ch : Nat → Nat} {a : Int32} {s : CSt} (p : Nat) (hi : i < z) (hz : z ≤ 60) (hm : i + m ≤ 59) : (pbl i m z ch a s).2.1 16 p = if p < i + 1 then s.2.1 16 p else if p < i + 1 + m then nI (ch (p - i - 1) % 21) else if p < min (z + m) 60 then s.2.1 16 (p - m) else s.2.1 16 p := by
  unfold pbl
  by_cases h0 : m = 0
  · subst h0
    rw [if_pos rfl]
    show s.2.1 16 p = _
    by_cases h1 : p < i + 1
    · rw [if_pos h1]
    · rw [if_neg h1, if_neg (by omega)]
      split <;> rfl
  · rw [if_neg h0, stl_16, mvl_16 (by omega)]
    by_cases h1 : p < i + 1
    · rw [if_pos h1, if_neg (by omega), if_neg (by omega)]
      rfl
    · rw [if_neg h1]
      by_cases h2 : p < i + 1 + m
      · rw [if_pos h2, if_pos (by omega)]
      · rw [if_neg h2, if_neg (by omega)]
        by_cases h3 : p < min (z + m) 60
        · rw [if_pos h3, if_pos (by omega)]
          rfl
        · rw [if_neg h3, if_neg (by omega)]
          rfl
theorem pbl_17 {i m z : Nat} {ch : Nat → Nat} {a : Int32} {s : CSt} (p : Nat) (hi : i < z) (hz : z ≤ 60) (hm : i + m ≤ 59) : (pbl i m z ch a s).2.1 17 p = if p < i + 1 then s.2.1 17 p else if p < i + 1 + m then s.2.1 9 (ch (p - i - 1)) else if p < min (z + m) 60 then s.2.1 17 (p - m) else s.2.1 17 p := by
  unfold pbl
  by_cases h0 : m = 0
  · subst h0
    rw [if_pos rfl]
    show s.2.1 17 p = _
    by_cases h1 : p < i + 1
    · rw [if_pos h1]
    · rw [if_neg h1, if_neg (by omega)]
      split <;> rfl
  · rw [if_neg h0, stl_17, mvl_17 (by omega)]
    by_cases h1 : p < i + 1
    · rw [if_pos h1, if_neg (by omega), if_neg (by omega)]
      rfl
    · rw [if_neg h1]
      by_cases h2 : p < i + 1 + m
      · rw [if_pos h2, if_pos (by omega)]
        rw [(frT.mvl _ _).2.2 9 (by decide)]
        rfl
      · rw [if_neg h2, if_neg (by omega)]
        by_cases h3 : p < min (z + m) 60
        · rw [if_pos h3, if_pos (by omega)]
          rfl
        · rw [if_neg h3, if_neg (by omega)]
          rfl
theorem pbl_18 {i m z : Nat} {ch : Nat → Nat} {a : Int32} {s : CSt} (p : Nat) (hi : i < z) (hz : z ≤ 60) (hm : i + m ≤ 59) : (pbl i m z ch a s).2.1 18 p = if p < i + 1 then s.2.1 18 p else if p < i + 1 + m then a else if p < min (z + m) 60 then s.2.1 18 (p - m) else s.2.1 18 p := by
  unfold pbl
  by_cases h0 : m = 0
  · subst h0
    rw [if_pos rfl]
    show s.2.1 18 p = _
    by_cases h1 : p < i + 1
    · rw [if_pos h1]
    · rw [if_neg h1, if_neg (by omega)]
      split <;> rfl
  · rw [if_neg h0, stl_18, mvl_18 (by omega)]
    by_cases h1 : p < i + 1
    · rw [if_pos h1, if_neg (by omega), if_neg (by omega)]
      rfl
    · rw [if_neg h1]
      by_cases h2 : p < i + 1 + m
      · rw [if_pos h2, if_pos (by omega)]
      · rw [if_neg h2, if_neg (by omega)]
        by_cases h3 : p < min (z + m) 60
        · rw [if_pos h3, if_pos (by omega)]
          rfl
        · rw [if_neg h3, if_neg (by omega)]
          rfl
theorem pbl_7 {i m z : Nat} {ch : Nat → Nat} {a : Int32} {s : CSt} (hs : s.1 7 = nI z) (hz : z ≤ 60) : (pbl i m z ch a s).1 7 = nI (min (z + m) 60) := by
  unfold pbl
  rw [stl_1]
  by_cases h0 : m = 0
  · subst h0
    rw [if_pos rfl, hs, show min (z + 0) 60 = z by omega]
  · rw [if_neg h0, mvl_1]
    exact (show va_up s.1 7 (nI (min (z + m) 60)) 7 = _ from va_up_self _ _ _)
theorem pbl_fr {i m z : Nat} {ch : Nat → Nat} {a : Int32} {s : CSt} : frT s (pbl i m z ch a s) := by
  unfold pbl
  refine frT.tr ?_ (frT.stl _ _ _)
  split
  · exact frT.rf
  · exact frT.tr frT.szP (frT.mvl _ _)
/-- the list after node i's children have been put behind it -/
def stepL (L : List (Nat × Nat)) (i lv : Nat) (C : List Nat) : List (Nat × Nat) := (L.take (i + 1) ++ (C.map (fun c => (c, lv + 1)) ++ L.drop (i + 1))).take 60
theorem stepL_get {L : List (Nat × Nat)} {i lv : Nat} {C : List Nat} (hi : i < L.length) (p : Nat) (hp : p < 60) : (stepL L i lv C)[p]? = if p < i + 1 then L[p]? else if p < i + 1 + C.length then (C[p - i - 1]?).map (fun c => (c, lv + 1)) else L[p - C.length]? := by
  unfold stepL
  rw [List.getElem?_take, if_pos hp, List.getElem?_append]
  have e : (L.take (i + 1)).length = i + 1 := by rw [List.length_take]; omega
  rw [e]
  by_cases h1 : p < i + 1
  · rw [if_pos h1, if_pos h1, List.getElem?_take, if_pos h1]
  · rw [if_neg h1, if_neg h1, List.getElem?_append, List.length_map]
    by_cases h2 : p < i + 1 + C.length
    · rw [if_pos h2, if_pos (by omega), List.getElem?_map, show p - (i + 1) = p - i - 1 by omega]
    · rw [if_neg h2, if_neg (by omega), List.getElem?_drop, show i + 1 + (p - (i + 1) - C.length) = p - C.length by omega]
theorem stepL_len {L : List (Nat × Nat)} {i lv : Nat} {C : List Nat} (hi : i < L.length) : (stepL L i lv C).length = min (L.length + C.length) 60 := by
  unfold stepL
  rw [List.length_take, List.length_append, List.length_append, List.length_map, List.length_take, List.length_drop]
  omega
theorem TR_step {s : CSt} {L : List (Nat × Nat)} {i : Nat} {x : Nat × Nat} {C : List Nat} (h : TR s L) (hx : L[i]? = some x) (hC : ∀ c ∈ C, c < 126) : TR (pbl i (min C.length (59 - i)) L.length (fun k => C.getD k 0) (nI (x.2 + 1)) s) (stepL L i x.2 C) := by
  obtain ⟨h1, h2, h3⟩ := h
  have hi : i < L.length := (List.getElem?_eq_some_iff.mp hx).1
  have hxi := (h3 i x hx).2.1
  refine ⟨?_, ?_, ?_⟩
  · rw [pbl_7 h1 h2, stepL_len hi]
    congr 1
    omega
  · rw [stepL_len hi]; omega
  · intro p y hy
    have hp : p < (stepL L i x.2 C).length := (List.getElem?_eq_some_iff.mp hy).1
    rw [stepL_len hi] at hp
    rw [stepL_get hi p (by omega)] at hy
    rw [pbl_15 p hi h2 (by omega), pbl_16 p hi h2 (by omega), pbl_17 p hi h2 (by omega), pbl_18 p hi h2 (by omega), show ∀ k, (pbl i (min C.length (59 - i)) L.length (fun k => C.getD k 0) (nI (x.2 + 1)) s).2.1 9 k = s.2.1 9 k from fun k => by rw [pbl_fr.2.2 9 (by decide)]]
    by_cases g1 : p < i + 1
    · rw [if_pos g1] at hy
      rw [if_pos g1, if_pos g1, if_pos g1, if_pos g1]
      exact h3 p y hy
    · rw [if_neg g1] at hy
      rw [if_neg g1, if_neg g1, if_neg g1, if_neg g1]
      by_cases g2 : p < i + 1 + C.length
      · rw [if_pos g2] at hy
        rw [if_pos (by omega), if_pos (by omega), if_pos (by omega), if_pos (by omega)]
        cases hc : C[p - i - 1]? with
        | none => rw [hc] at hy; cases hy
        | some c =>
          rw [hc] at hy
          have hy : (c, x.2 + 1) = y := Option.some.inj hy
          subst hy
          have e : C.getD (p - i - 1) 0 = c := by rw [List.getD_eq_getElem?_getD, hc]; rfl
          rw [e]
          exact ⟨hC c (List.mem_of_getElem? hc), by show x.2 + 1 ≤ p; omega, rfl, rfl, rfl, rfl⟩
      · rw [if_neg g2] at hy
        have q1 : ¬ p < i + 1 + min C.length (59 - i) := by omega
        have q2 : p < min (L.length + min C.length (59 - i)) 60 := by omega
        simp only [if_neg q1, if_pos q2]
        rw [show p - min C.length (59 - i) = p - C.length by omega]
        obtain ⟨k1, k2, k3⟩ := h3 _ y hy
        exact ⟨k1, by omega, k3⟩
/-- how the tree grows -/
def gro (ch : Nat → List Nat) : Nat → Nat → List (Nat × Nat) → List (Nat × Nat)
  | 0, _, L => L
  | k + 1, i, L => match L[i]? with
    | none => L
    | some x => gro ch k (i + 1) (stepL L i x.2 (ch x.1))
/-- the cells of a tree, and what stands below each of them -/
def CHI (s : CSt) (gd : Nat → Prop) (ch : Nat → List Nat) : Prop := ∀ c, gd c → c < 126 ∧ s.2.1 10 c = nI (ch c).length ∧ (ch c).length < 2 ^ 30 ∧ (∀ (k y : Nat), (ch c)[k]? = some y → k < 60 → s.2.1 11 (c * 60 + k) = nI y) ∧ ∀ y ∈ ch c, gd y
theorem CHI.fr {s s2 : CSt} {gd : Nat → Prop} {ch : Nat → List Nat} (h : CHI s gd ch) (f : frT s s2) : CHI s2 gd ch := fun c hc => by
  rw [f.2.2 10 (by decide), f.2.2 11 (by decide)]
  exact h c hc
theorem stepL_mem {L : List (Nat × Nat)} {i lv : Nat} {C : List Nat} {gd : Nat → Prop} (hL : ∀ x ∈ L, gd x.1) (hC : ∀ c ∈ C, gd c) : ∀ x ∈ stepL L i lv C, gd x.1 := by
  intro x hx
  rcases List.mem_append.mp (List.mem_of_mem_take hx) with h | h
  · exact hL x (List.mem_of_mem_take h)
  · rcases List.mem_append.mp h with h | h
    · obtain ⟨c, hc, rfl⟩ := List.mem_map.mp h
      exact hC c hc
    · exact hL x (List.mem_of_mem_drop h)
set_option maxHeartbeats 8000000 in
theorem C_grow_loop (hl : l.stackTraces = false) (d : Nat) (gd : Nat → Prop) (ch : Nat → List Nat) : ∀ (k i : Nat) (s : CSt) (L : List (Nat × Nat)), i + k = 60 → TR s L → CHI s gd ch → (∀ x ∈ L, gd x.1) → EW (IC cy ax hp0) l D cy base mX7_grow (d + 4) 0 0 15 [(0, .ref (ax 13)), (1, .ref (ax 8)), (3, .int (nI i))] [] s (fun o s2 => o = .inl none ∧ TR s2 (gro ch k i L) ∧ frT s s2) := by
  intro k
  induction k with
  | zero =>
    intro i s L hk hT hC hg
    refine EW.iload_n dX7_grow_15 rfl rfl ?_
    refine EW.bp 60 dX7_grow_16 ?_
    refine EW.icmp_ge 41 dX7_grow_18 (by decide) (fun c18 => ?_) (fun c18 => ?_)
    · have c18 : 60 ≤ i := (nI_leI (by omega) (by omega)).mp c18
      refine EW.vret rfl dX7_grow_41 ?_
      exact ⟨rfl, hT, frT.rf⟩
    · have c18 : ¬ (60 ≤ i) := fun h => c18 ((nI_leI (by omega) (by omega)).mpr h); omega
  | succ k ih =>
    intro i s L hk hT hC hg
    have h60 := hT.2.1
    cases hx : L[i]? with
    | none =>
      have hlen : L.length ≤ i := List.getElem?_eq_none_iff.mp hx
      rw [show gro ch (k + 1) i L = L by rw [gro, hx]]
      refine EW.iload_n dX7_grow_15 rfl rfl ?_
      refine EW.bp 60 dX7_grow_16 ?_
      refine EW.icmp_ge 41 dX7_grow_18 (by decide) (fun c18 => ?_) (fun c18 => ?_)
      · have c18 : 60 ≤ i := (nI_leI (by omega) (by omega)).mp c18; omega
      · have c18 : ¬ (60 ≤ i) := fun h => c18 ((nI_leI (by omega) (by omega)).mpr h)
        refine EW.iload_n dX7_grow_21 rfl rfl ?_
        refine EW.aload_n dX7_grow_22 rfl rfl ?_
        refine EC.get (k := 13) f_X7_16 dX7_grow_23 (by decide) rfl rfl ?_
        refine EW.top hT.1 ?_
        refine EW.icmp_ge 41 dX7_grow_26 (by decide) (fun c26 => ?_) (fun c26 => ?_)
        · have c26 : L.length ≤ i := (nI_leI (by omega) (by omega)).mp c26
          refine EW.vret rfl dX7_grow_41 ?_
          exact ⟨rfl, hT, frT.rf⟩
        · have c26 : ¬ (L.length ≤ i) := fun h => c26 ((nI_leI (by omega) (by omega)).mpr h); omega
    | some x =>
      have hlen : i < L.length := (List.getElem?_eq_some_iff.mp hx).1
      obtain ⟨k1, k2, k3, k4, k5, k6⟩ := hT.2.2 i x hx
      obtain ⟨c1, c2, c3, c4, c5⟩ := hC x.1 (hg x (List.mem_of_getElem? hx))
      have hc126 : ∀ c ∈ ch x.1, c < 126 := fun c hc => (hC c (c5 c hc)).1
      have e21 : x.1 / 21 * 21 + x.1 % 21 = x.1 := by omega
      rw [show gro ch (k + 1) i L = gro ch k (i + 1) (stepL L i x.2 (ch x.1)) by rw [gro, hx]]
      obtain ⟨s1, hs1⟩ : ∃ s1, pbl i (min (ch x.1).length (59 - i)) L.length (fun k => (ch x.1).getD k 0) (nI (x.2 + 1)) s = s1 := ⟨_, rfl⟩
      have hT1 : TR s1 (stepL L i x.2 (ch x.1)) := by rw [← hs1]; exact TR_step hT hx hc126
      have hF1 : frT s s1 := by rw [← hs1]; exact pbl_fr
      have hP := C_putBelow (cy := cy) (ax := ax) (hp0 := hp0) (D := D) (base := base) hl d i L.length (x.1 / 21) (x.1 % 21) x.2 (ch x.1).length (fun k => (ch x.1).getD k 0) s hT.1 hlen h60 (by omega) (by omega) k3 k4 k6 (by omega) (by rw [e21]; exact c2) c3 (fun k hk => by
        have hk2 : k < (ch x.1).length := by omega
        have e : (ch x.1)[k]? = some ((ch x.1).getD k 0) := by rw [List.getD_eq_getElem?_getD, List.getElem?_eq_getElem hk2]; rfl
        exact ⟨hc126 _ (List.mem_of_getElem? e), by rw [e21]; exact c4 k _ e (by omega)⟩)
      rw [hs1] at hP
      refine EW.iload_n dX7_grow_15 rfl rfl ?_
      refine EW.bp 60 dX7_grow_16 ?_
      refine EW.icmp_ge 41 dX7_grow_18 (by decide) (fun c18 => ?_) (fun c18 => ?_)
      · have c18 : 60 ≤ i := (nI_leI (by omega) (by omega)).mp c18; omega
      · have c18 : ¬ (60 ≤ i) := fun h => c18 ((nI_leI (by omega) (by omega)).mpr h)
        refine EW.iload_n dX7_grow_21 rfl rfl ?_
        refine EW.aload_n dX7_grow_22 rfl rfl ?_
        refine EC.get (k := 13) f_X7_16 dX7_grow_23 (by decide) rfl rfl ?_
        refine EW.top hT.1 ?_
        refine EW.icmp_ge 41 dX7_grow_26 (by decide) (fun c26 => ?_) (fun c26 => ?_)
        · have c26 : L.length ≤ i := (nI_leI (by omega) (by omega)).mp c26; omega
        · have c26 : ¬ (L.length ≤ i) := fun h => c26 ((nI_leI (by omega) (by omega)).mpr h)
          refine EW.aload_n dX7_grow_29 rfl rfl ?_
          refine EW.iload_n dX7_grow_30 rfl rfl ?_
          refine EW.aload_n dX7_grow_31 rfl rfl ?_
          refine EC.callV (bc := 0) (bs := 0) (mc' := 0) (ms' := 0) (k := 13) (hP) mfX7_putBelow l_X7_28 mvX7_putBelow (by omega) dX7_grow_32 rfl rfl (by decide) rfl rfl rfl (Nat.le_of_ble_eq_true rfl) (fun v32 s32 q32 => ?_) (fun _ _ q => nomatch q.1)
          obtain ⟨e32, h32⟩ := q32; cases e32; replace h32 := h32.symm; subst h32
          refine EW.iinc dX7_grow_35 rfl (nI_inc _) (by decide) ?_
          refine EW.goto 15 dX7_grow_38 (by decide) ?_
          refine EW.loc (lv' := [(0, .ref (ax 13)), (1, .ref (ax 8)), (3, .int (nI (i + 1)))]) ⟨rfl, rfl, rfl, trivial⟩ (EW.post ?_ (ih (i + 1) s1 (stepL L i x.2 (ch x.1)) (by omega) hT1 (hC.fr hF1) (stepL_mem hg c5)))
          intro o s2 ⟨g1, g2, g3⟩
          exact ⟨g1, g2, hF1.tr g3⟩
theorem TR_one {s : CSt} {c : Nat} (hc : c < 126) : TR (tset 0 c (nI 0) (szP (nI 1) s)) [(c, 0)] := by
  refine ⟨(show va_up s.1 7 (nI 1) 7 = _ from va_up_self _ _ _), (show 1 ≤ 60 by decide), fun i x hx => ?_⟩
  cases i with
  | zero =>
    cases hx
    refine ⟨hc, Nat.le_refl 0, ?_, ?_, ?_, ?_⟩
    · exact (show upd (s.2.1 15) 0 (nI (c / 21)) 0 = _ from pk_us)
    · exact (show upd (s.2.1 16) 0 (nI (c % 21)) 0 = _ from pk_us)
    · exact (show upd (s.2.1 17) 0 (s.2.1 9 c) 0 = _ from pk_us)
    · exact (show upd (s.2.1 18) 0 (nI 0) 0 = _ from pk_us)
  | succ i => cases hx
set_option maxHeartbeats 4000000 in
theorem C_grow (hl : l.stackTraces = false) (d : Nat) (gd : Nat → Prop) (ch : Nat → List Nat) (s : CSt) (c : Nat) (hg : gd c) (hC : CHI s gd ch) : MtW (IC cy ax hp0) l D cy base mX7_grow (d + 4) 0 0 [.ref (ax 13), .ref (ax 8), .int (nI c)] s (fun o s2 => o = .inl none ∧ TR s2 (gro ch 60 0 [(c, 0)]) ∧ frT s s2) := by
  refine MtW.of hl mfX7_grow rfl (Nat.le_of_ble_eq_true rfl) ?_
  have F : frT s (tset 0 c (nI 0) (szP (nI 1) s)) := frT.szP.tr frT.tset
  refine EW.aload_n dX7_grow_0 rfl rfl ?_
  refine EW.ic 1 dX7_grow_1 ?_
  refine EC.put7 f_X7_16 dX7_grow_2 ?_
  refine EW.aload_n dX7_grow_5 rfl rfl ?_
  refine EW.ic 0 dX7_grow_6 ?_
  refine EW.aload_n dX7_grow_7 rfl rfl ?_
  refine EW.iload_n dX7_grow_8 rfl rfl ?_
  refine EW.ic 0 dX7_grow_9 ?_
  refine EC.callV (bc := 0) (bs := 0) (mc' := 0) (ms' := 0) (k := 13) (C_set hl d (szP (nI 1) s) 0 c (nI 0) (by decide) (hC c hg).1) mfX7_set l_X7_24 mvX7_set (by omega) dX7_grow_10 rfl rfl (by decide) rfl rfl rfl (Nat.le_of_ble_eq_true rfl) (fun v10 s10 q10 => ?_) (fun _ _ q => nomatch q.1)
  obtain ⟨e10, h10⟩ := q10; cases e10; replace h10 := h10.symm; subst h10
  refine EW.ic 0 dX7_grow_13 ?_
  refine EW.istore_n dX7_grow_14 rfl (by decide) ?_
  refine EW.loc (lv' := [(0, .ref (ax 13)), (1, .ref (ax 8)), (3, .int (nI 0))]) ⟨rfl, rfl, rfl, trivial⟩ (EW.post ?_ (C_grow_loop hl d gd ch 60 0 _ [(c, 0)] rfl (TR_one (hC c hg).1) (hC.fr F) (fun x hx => by cases List.mem_singleton.mp hx; exact hg)))
  intro o s2 ⟨g1, g2, g3⟩
  exact ⟨g1, g2, F.tr g3⟩
end C13
