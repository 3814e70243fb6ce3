/-! The reference's recording run records what is told again; both trees are the first sixty in order. -/
def ROWM (A : AS) (Z : List Nat) : Prop := A.2.2.2.1 = Z.length ∧ ∀ (k y : Nat), Z[k]? = some y → k < 64 → A.2.2.2.2.1 k = nI (y / 21) ∧ A.2.2.2.2.2.1 k = nI (y % 21) ∧ A.2.2.2.2.2.2 k = A.1 y
theorem ROWM.cut {A A1 : AS} {Z X : List Nat} (h : ROWM A Z) (h1 : ROWM A1 (Z ++ X)) : ROWM (cutA A.2.2.2.1 A1) Z := ⟨h.1, fun k y hk h64 => h1.2 k y (by rw [List.getElem?_append_left (lst_lt hk)]; exact hk) h64⟩
section REC
variable {n : Nat} {w : Nat → Nat}
def RSP (A : AS) (Z : List Nat) (v : Option Nat) (X : List Nat) (R : Ra) : Prop := R.1 = some v ∧ R.2.1 = A.1 ∧ ∃ X', ROWM R.2 (Z ++ X') ∧ (v ≠ none → X' = X)
theorem avRep_rec {f : Nat → AS → Ra} {g : Nat → Rp} (m0 : Nat → Int32) (hf : ∀ p A Z v X, p ≤ n → A.1 = m0 → g p = some (v, X) → ROWM A Z → RSP A Z v X (f p A)) (hq : ∀ p q X, p ≤ n → g p = some (some q, X) → q ≤ n) : ∀ (k : Nat) (a9 : Option Nat) (p : Nat) (A : AS) (Z L : List Nat) (v : Option Nat) (X : List Nat), p ≤ n → A.1 = m0 → ROWM A (Z ++ L) → rpRep g k a9 p L = some (v, X) → (avRep f k a9 p A).1 = some v ∧ (avRep f k a9 p A).2.1 = m0 ∧ ROWM (avRep f k a9 p A).2 (Z ++ X)
  | 0, a9, p, A, Z, L, v, X, _, hA, hR, e => by
    cases e
    exact ⟨rfl, hA, hR⟩
  | k + 1, a9, p, A, Z, L, v, X, hp, hA, hR, e => by
    unfold rpRep at e
    unfold avRep
    rcases bnP_ex e with ⟨Y, e1, e2⟩ | ⟨q, Y, e1, e2⟩
    · obtain ⟨h1, h2, X', h3, -⟩ := hf p A (Z ++ L) none Y hp hA e1 hR
      rw [bnA_fail h1]
      cases e2
      exact ⟨rfl, h2.trans hA, hR.cut h3⟩
    · obtain ⟨h1, h2, X', h3, h4⟩ := hf p A (Z ++ L) (some q) Y hp hA e1 hR
      rw [bnA_some h1]
      have e4 := h4 (fun c => by cases c)
      subst e4
      rw [List.append_assoc] at h3
      exact avRep_rec m0 hf hq k (some q) q _ Z (L ++ X') v X (hq p q X' hp e1) (h2.trans hA) h3 e2
theorem avA_rec (hn : n ≤ 20) (m0 : Nat → Int32) (hc : CLO n (lkm m0)) : ∀ t, wf t → ∀ p d A Z v X, p ≤ n → A.1 = m0 → rp n w (lkm m0) t p = some (v, X) → ROWM A Z → RSP A Z v X (avA n w recC t p d A) := by
  refine ast_ind (fun lo hi _ _ p d A Z v X hp hA e hR => ?_) (fun r hr p d A Z v X hp hA e hR => ?_) (fun m a b _ _ wa wb ha hb p d A Z v X hp hA e hR => ?_) (fun k x h4 h8 wx hx p d A Z v X hp hA e hR => ?_)
  · simp only [rp] at e
    cases e
    exact ⟨rfl, rfl, [], by rw [List.append_nil]; exact hR, fun _ => rfl⟩
  · simp only [rp] at e
    show RSP A Z v X (recC r p (d + 2) A)
    unfold recC
    rw [hA]
    unfold lkm at e
    by_cases h2 : m0 (r * 21 + p) = -2
    · rw [if_pos h2] at e
      cases e
    · rw [if_neg h2] at e ⊢
      cases hv : vO (m0 (r * 21 + p)) with
      | none =>
        rw [hv] at e
        cases e
        have hlt : m0 (r * 21 + p) < 0 := by
          unfold vO at hv
          split at hv
          · assumption
          · cases hv
        rw [if_pos hlt]
        exact ⟨rfl, rfl, [], by rw [List.append_nil]; exact hR, fun _ => rfl⟩
      | some q =>
        rw [hv] at e
        cases e
        have hlt : ¬ m0 (r * 21 + p) < 0 := by
          intro c
          unfold vO at hv
          rw [if_pos c] at hv
          cases hv
        rw [if_neg hlt]
        refine ⟨rfl, hA.symm, [r * 21 + p], ⟨?_, fun k y hk h64 => ?_⟩, fun _ => rfl⟩
        · show A.2.2.2.1 + 1 = (Z ++ [r * 21 + p]).length
          rw [List.length_append, hR.1]
          rfl
        · rw [hR.1]
          by_cases hk2 : k < Z.length
          · rw [List.getElem?_append_left hk2] at hk
            have hh := hR.2 k y hk h64
            rw [hA] at hh
            dsimp only
            split
            · dsimp only
              rw [pk_un (by omega), pk_un (by omega), pk_un (by omega)]
              exact hh
            · exact hh
          · have hk3 : k = Z.length := by
              have := lst_lt hk
              rw [List.length_append] at this
              have : k < Z.length + 1 := this
              omega
            subst hk3
            rw [List.getElem?_append_right (Nat.le_refl _), Nat.sub_self] at hk
            cases hk
            dsimp only
            rw [if_pos h64]
            dsimp only
            rw [pk_us, pk_us, pk_us, show (r * 21 + p) / 21 = r by omega, show (r * 21 + p) % 21 = p by omega]
            exact ⟨rfl, rfl, rfl⟩
  · simp only [rp] at e
    simp only [avA]
    generalize (if m % 2 = 1 then d else d + 1) = d2
    by_cases hm : m < 2
    · rw [if_pos hm] at e ⊢
      rcases bnP_ex e with ⟨Y, e1, e2⟩ | ⟨q, Y, e1, e2⟩
      · obtain ⟨h1, h2, X', h3, -⟩ := ha p (d + 1) A Z none Y hp hA e1 hR
        rw [bnA_fail h1]
        cases e2
        exact ⟨rfl, h2, X', h3, fun c => absurd rfl c⟩
      · obtain ⟨h1, h2, X', h3, h4⟩ := ha p (d + 1) A Z (some q) Y hp hA e1 hR
        rw [bnA_some h1]
        have e4 := h4 (fun c => by cases c)
        subst e4
        have hq := (rp_ok hc a wa p _ hp e1).1 q rfl
        rcases bnP_ex e2 with ⟨Y2, e3, e5⟩ | ⟨q2, Y2, e3, e5⟩
        · obtain ⟨g1, g2, X2, g3, -⟩ := hb q d2 _ (Z ++ X') none Y2 hq (h2.trans hA) e3 h3
          cases e5
          rw [List.append_assoc] at g3
          exact ⟨g1, g2.trans h2, X' ++ X2, g3, fun c => absurd rfl c⟩
        · obtain ⟨g1, g2, X2, g3, g4⟩ := hb q d2 _ (Z ++ X') (some q2) Y2 hq (h2.trans hA) e3 h3
          cases e5
          rw [List.append_assoc] at g3
          exact ⟨g1, g2.trans h2, X' ++ X2, g3, fun _ => by rw [g4 (fun c => by cases c)]⟩
    · rw [if_neg hm] at e ⊢
      rcases bnP_ex e with ⟨Y, e1, e2⟩ | ⟨q, Y, e1, e2⟩
      · obtain ⟨h1, h2, X', h3, -⟩ := ha p (d + 1) A Z none Y hp hA e1 hR
        rw [bnA_fail h1]
        obtain ⟨g1, g2, X2, g3, g4⟩ := hb p d2 (cutA A.2.2.2.1 (avA n w recC a p (d + 1) A).2) Z v X hp (h2.trans hA) e2 (hR.cut h3)
        exact ⟨g1, g2.trans h2, X2, g3, g4⟩
      · obtain ⟨h1, h2, X', h3, h4⟩ := ha p (d + 1) A Z (some q) Y hp hA e1 hR
        rw [bnA_some h1]
        cases e2
        exact ⟨rfl, h2, X', h3, h4⟩
  · simp only [rp] at e
    simp only [avA]
    by_cases h7 : k = 7
    · rw [if_pos h7] at e ⊢
      rcases bnP_ex e with ⟨Y, e1, e2⟩ | ⟨q, Y, e1, e2⟩
      · obtain ⟨h1, h2, X', h3, -⟩ := hx p (d + 1) A Z none Y hp hA e1 hR
        rw [bnA_fail h1]
        cases e2
        exact ⟨rfl, h2, [], by rw [List.append_nil]; exact hR.cut h3, fun _ => rfl⟩
      · obtain ⟨h1, h2, X', h3, -⟩ := hx p (d + 1) A Z (some q) Y hp hA e1 hR
        rw [bnA_some h1]
        cases e2
        exact ⟨rfl, h2, [], by rw [List.append_nil]; exact hR.cut h3, fun _ => rfl⟩
    · rw [if_neg h7] at e ⊢
      by_cases h8' : k = 8
      · rw [if_pos h8'] at e ⊢
        rcases bnP_ex e with ⟨Y, e1, e2⟩ | ⟨q, Y, e1, e2⟩
        · obtain ⟨h1, h2, X', h3, -⟩ := hx p (d + 1) A Z none Y hp hA e1 hR
          rw [bnA_fail h1]
          cases e2
          exact ⟨rfl, h2, [], by rw [List.append_nil]; exact hR.cut h3, fun _ => rfl⟩
        · obtain ⟨h1, h2, X', h3, -⟩ := hx p (d + 1) A Z (some q) Y hp hA e1 hR
          rw [bnA_some h1]
          cases e2
          exact ⟨rfl, h2, [], by rw [List.append_nil]; exact hR.cut h3, fun _ => rfl⟩
      · rw [if_neg h8'] at e ⊢
        obtain ⟨h1, h2, h3⟩ := avRep_rec (f := fun q A => avA n w recC x q (d + 1) A) m0 (fun p A Z v X hp hA e hR => hx p (d + 1) A Z v X hp hA e hR) (fun p q X hp e => (rp_ok hc x wx p _ hp e).1 q rfl) _ _ p A Z [] v X hp hA (by rw [List.append_nil]; exact hR) e
        exact ⟨h1, h2.trans hA.symm, X, h3, fun _ => rfl⟩
end REC
/-! trees -/
def preW (ch : Nat → List Nat) : Nat → List (Nat × Nat) → List (Nat × Nat)
  | 0, _ => []
  | _ + 1, [] => []
  | k + 1, x :: rest => x :: preW ch k ((ch x.1).map (fun c => (c, x.2 + 1)) ++ rest)
theorem take_app2 {C r : List (Nat × Nat)} {k j : Nat} (h : k ≤ j) : (C ++ r.take j).take k = (C ++ r).take k := by
  rw [List.take_append, List.take_append, List.take_take, Nat.min_eq_left (by omega)]
theorem preW_take {ch : Nat → List Nat} : ∀ k j W, k ≤ j → preW ch k (W.take j) = preW ch k W
  | 0, _, _, _ => by simp only [preW]
  | k + 1, j, [], _ => by rw [List.take_nil]
  | k + 1, 0, x :: rest, h => by omega
  | k + 1, j + 1, x :: rest, h => by
    rw [List.take_succ_cons]
    unfold preW
    rw [← preW_take k k ((ch x.1).map (fun c => (c, x.2 + 1)) ++ rest.take j) (Nat.le_refl _), take_app2 (by omega), preW_take k k _ (Nat.le_refl _)]
theorem gro_pre {ch : Nat → List Nat} : ∀ (k i : Nat) (L : List (Nat × Nat)), i + k = 60 → L.length ≤ 60 → gro ch k i L = L.take i ++ preW ch k (L.drop i)
  | 0, i, L, h, hl => by
    unfold gro preW
    rw [List.append_nil, List.take_of_length_le (by omega)]
  | k + 1, i, L, h, hl => by
    unfold gro
    cases hx : L[i]? with
    | none =>
      have hge : L.length ≤ i := by
        rcases Nat.lt_or_ge i L.length with g | g
        · rw [List.getElem?_eq_getElem g] at hx; cases hx
        · exact g
      rw [List.drop_eq_nil_of_le hge, List.take_of_length_le hge]
      simp only [preW, List.append_nil]
    | some x =>
      have hlt := lst_lt hx
      have hxe : L[i] = x := by rw [List.getElem?_eq_getElem hlt] at hx; exact Option.some.inj hx
      have hd : L.drop i = x :: L.drop (i + 1) := by rw [List.drop_eq_getElem_cons hlt, hxe]
      have ht : L.take (i + 1) = L.take i ++ [x] := by rw [List.take_succ_eq_append_getElem hlt, hxe]
      have hsl : (stepL L i x.2 (ch x.1)).length ≤ 60 := by unfold stepL; rw [List.length_take]; omega
      dsimp only
      rw [gro_pre k (i + 1) (stepL L i x.2 (ch x.1)) (by omega) hsl, hd]
      have lt : (L.take (i + 1)).length = i + 1 := by rw [List.length_take]; omega
      have e1 : (stepL L i x.2 (ch x.1)).take (i + 1) = L.take (i + 1) := by
        unfold stepL
        rw [List.take_take, Nat.min_eq_left (by omega), List.take_append_of_le_length (by omega), List.take_of_length_le (by omega)]
      have e2 : (stepL L i x.2 (ch x.1)).drop (i + 1) = ((ch x.1).map (fun c => (c, x.2 + 1)) ++ L.drop (i + 1)).take k := by
        unfold stepL
        rw [List.drop_take, show 60 - (i + 1) = k by omega]
        rw [List.drop_left' lt]
      rw [e1, e2, preW_take k k _ (Nat.le_refl _), ht, List.append_assoc]
      rfl
def pend (ch : Nat → List Nat) : List (Nat × Nat) → List (Nat × Nat)
  | [] => []
  | x :: rest => ((ch x.1).drop x.2).map (fun c => (c, rest.length + 1)) ++ pend ch rest
theorem dfs_pre {ch : Nat → List Nat} : ∀ (f : Nat) (V st : List (Nat × Nat)), V.length ≤ 60 → 2 * (60 - V.length) + st.length + 1 ≤ f → dfs ch f V st = V ++ preW ch (60 - V.length) (pend ch st)
  | 0, V, st, _, h => by omega
  | f + 1, V, [], _, _ => by
    unfold dfs pend
    cases 60 - V.length <;> simp only [preW, List.append_nil]
  | f + 1, V, x :: rest, hV, h => by
    unfold dfs
    rw [List.length_cons] at h
    by_cases hl : V.length < 60
    · rw [if_pos hl]
      cases hy : (ch x.1)[x.2]? with
      | none =>
        have hge : (ch x.1).length ≤ x.2 := by
          rcases Nat.lt_or_ge x.2 (ch x.1).length with g | g
          · rw [List.getElem?_eq_getElem g] at hy; cases hy
          · exact g
        dsimp only
        rw [dfs_pre f V rest hV (by omega)]
        show _ = V ++ preW ch (60 - V.length) (((ch x.1).drop x.2).map (fun c => (c, rest.length + 1)) ++ pend ch rest)
        rw [List.drop_eq_nil_of_le hge]
        rfl
      | some y =>
        have hlt := lst_lt hy
        have hye : (ch x.1)[x.2] = y := by rw [List.getElem?_eq_getElem hlt] at hy; exact Option.some.inj hy
        dsimp only
        rw [dfs_pre f (V ++ [(y, rest.length + 1)]) ((y, 0) :: (x.1, x.2 + 1) :: rest) (by rw [List.length_append]; simp only [List.length_cons, List.length_nil]; omega) (by rw [List.length_append]; simp only [List.length_cons, List.length_nil]; omega)]
        rw [List.length_append, List.append_assoc]
        show V ++ ([(y, rest.length + 1)] ++ preW ch (60 - (V.length + 1)) (((ch y).drop 0).map (fun c => (c, (rest.length + 1) + 1)) ++ (((ch x.1).drop (x.2 + 1)).map (fun c => (c, rest.length + 1)) ++ pend ch rest))) = V ++ preW ch (60 - V.length) (((ch x.1).drop x.2).map (fun c => (c, rest.length + 1)) ++ pend ch rest)
        rw [show 60 - V.length = (60 - (V.length + 1)) + 1 by omega, List.drop_eq_getElem_cons hlt, hye, List.drop_zero]
        rfl
    · rw [if_neg hl, show 60 - V.length = 0 by omega]
      simp only [preW, List.append_nil]
theorem gro_dfs (ch : Nat → List Nat) (c : Nat) : gro ch 60 0 [(c, 0)] = dfs ch 122 [(c, 0)] [(c, 0)] := by
  rw [gro_pre 60 0 [(c, 0)] (by decide) (by simp), dfs_pre 122 [(c, 0)] [(c, 0)] (by simp) (by simp)]
  rfl
