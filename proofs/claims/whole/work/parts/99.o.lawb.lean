section LAWB
variable {cy : Nat → ClassId} {ax ad : Nat → Nat} {o : Nat} {l : Launch} {D : va_G} {base : Nat} {c : CSt} {m : MSt} {f : Nat → Int64}
abbrev lvL (cy : Nat → ClassId) (ax ad : Nat → Nat) (o i : Nat) : List (Nat × Value) := [(0, .ref (cy 1002)), (1, .ref (ax 0)), (2, .ref (ad 43)), (3, .ref o), (4, .int (nI i))]
def QL : Oc → LWt → Prop := fun oc _ => oc = .inl (some (.int (nI 1)))
/-- behind a call: the next one -/
def NX (cy : Nat → ClassId) (ax ad : Nat → Nat) (o : Nat) (l : Launch) (D : va_G) (base n i : Nat) : Prop := ∀ (c' : CSt) (m' : MSt) (g : Nat → Int64) (lv : List (Nat × Value)), J c' m' → lsubs lv (lvL cy ax ad o i) → EW (LW cy ax ad o) l D cy base mL_law 2000 (50 * n) (400 * n) 646 lv [] (c', m', g) QL
set_option maxHeartbeats 2000000 in
theorem L_type (hl : l.stackTraces = false) (hJ : J c m) (n i : Nat) (hi : i + 2 < cy 1003) (hL : cy 1003 ≤ 192) (nx : NX cy ax ad o l D base n i) : EW (LW cy ax ad o) l D cy base mL_law 2000 (50 * (n + 1)) (400 * (n + 1)) 100 (lvL cy ax ad o i) [] (c, m, f) QL := by
  obtain ⟨k, hk, ek⟩ := i2c_nI (nI (cy (2000 + (i + 1))))
  obtain ⟨P, Q', hC, hB, hS, hR⟩ := O_type (cy := cy) (ax := ax) (ad := ad) (D := D) (base := base) hl hJ k hk
  obtain ⟨mc, ms, hmc, hms, hM⟩ := hC
  refine EW.aload_n dL_law_100 rfl rfl ?_
  refine EW.aload_n dL_law_101 rfl rfl ?_
  refine EW.iload dL_law_102 rfl ?_
  refine EW.ic 1 dL_law_104 ?_
  refine EW.iadd dL_law_105 ?_
  rw [nI_add]
  refine EW.sld (i + 1) dL_law_106 (by omega) hL ?_
  refine EW.i2c dL_law_107 ek ?_
  refine EW.more (bc' := 50 * n + mc) (bs' := 400 * n + ms) (by omega) (by omega) ?_
  refine EW.callV (ci := 8) (mc' := mc) (ms' := ms) (LW.cls hM) mfX8_type rfl l_L_46 mvX8_type (by omega) dL_law_108 rfl rfl (fun hp h => h.obC) rfl (Nat.le_of_ble_eq_true rfl) (fun v s1 q9 => ?_) (fun X s1 q9 => ?_)
  · obtain ⟨c', m', g'⟩ := s1
    obtain ⟨p9, e9⟩ := q9
    cases e9
    rcases hS _ _ p9 with ⟨a, ea⟩ | ⟨i9, X, h9, ea⟩
    · cases ea
      refine EW.aload_n dL_law_111 rfl rfl ?_
      refine EW.aload_n dL_law_112 rfl rfl ?_
      refine EW.iload dL_law_113 rfl ?_
      refine EW.ic 1 dL_law_115 ?_
      refine EW.iadd dL_law_116 ?_
      rw [nI_add]
      refine EW.sld (i + 1) dL_law_117 (by omega) hL ?_
      refine EW.i2c dL_law_118 ek ?_
      refine EW.callV (ci := 9) (bc := 50 * n) (bs := 400 * n) (mc' := 0) (ms' := 0) (LW.ref hB) mfX9_type rfl l_L_50 mvX9_type (by omega) dL_law_119 rfl rfl (fun hp h => h.obM) rfl (Nat.le_of_ble_eq_true rfl) (fun v s1 q9 => ?_) (fun X s1 q9 => ?_)
      · obtain ⟨c2, m2, g2⟩ := s1
        obtain ⟨q9, e1, e2⟩ := q9
        obtain ⟨⟨b, ea, eb⟩, hJ'⟩ := hR _ _ _ _ p9 q9
        cases ea
        cases eb
        have e1 : c2 = c' := e1
        subst e1
        refine EW.icmp_eq 646 dL_law_122 (by decide) (fun _ => ?_) (fun h => absurd rfl h)
        exact nx _ _ _ _ hJ' ⟨rfl, rfl, rfl, rfl, rfl, trivial⟩
      · obtain ⟨q9, -, -⟩ := q9
        obtain ⟨⟨b, ea, eb⟩, hJ'⟩ := hR _ _ _ _ p9 q9
        cases eb
    · cases ea
  · obtain ⟨p9, e9⟩ := q9
    rcases hS _ _ p9 with ⟨a, ea⟩ | ⟨i9, X, h9, ea⟩
    · cases ea
    · cases h9
set_option maxHeartbeats 2000000 in
theorem L_rule (hl : l.stackTraces = false) (hJ : J c m) (n i : Nat) (hi : i + 2 < cy 1003) (hL : cy 1003 ≤ 192) (nx : NX cy ax ad o l D base n i) : EW (LW cy ax ad o) l D cy base mL_law 2000 (50 * (n + 1)) (400 * (n + 1)) 127 (lvL cy ax ad o i) [] (c, m, f) QL := by
  obtain ⟨P, Q', hC, hB, hS, hR⟩ := O_rule (cy := cy) (ax := ax) (ad := ad) (D := D) (base := base) hl hJ
  obtain ⟨mc, ms, hmc, hms, hM⟩ := hC
  refine EW.aload_n dL_law_127 rfl rfl ?_
  refine EW.more (bc' := 50 * n + mc) (bs' := 400 * n + ms) (by omega) (by omega) ?_
  refine EW.callV (ci := 8) (mc' := mc) (ms' := ms) (LW.cls hM) mfX8_rule rfl l_L_51 mvX8_rule (by omega) dL_law_128 rfl rfl (fun hp h => h.obC) rfl (Nat.le_of_ble_eq_true rfl) (fun v s1 q9 => ?_) (fun X s1 q9 => ?_)
  · obtain ⟨c', m', g'⟩ := s1
    obtain ⟨p9, e9⟩ := q9
    cases e9
    rcases hS _ _ p9 with ⟨a, ea⟩ | ⟨i9, X, h9, ea⟩
    · cases ea
      refine EW.aload_n dL_law_131 rfl rfl ?_
      refine EW.callV (ci := 9) (bc := 50 * n) (bs := 400 * n) (mc' := 0) (ms' := 0) (LW.ref hB) mfX9_rule rfl l_L_55 mvX9_rule (by omega) dL_law_132 rfl rfl (fun hp h => h.obM) rfl (Nat.le_of_ble_eq_true rfl) (fun v s1 q9 => ?_) (fun X s1 q9 => ?_)
      · obtain ⟨c2, m2, g2⟩ := s1
        obtain ⟨q9, e1, e2⟩ := q9
        obtain ⟨⟨b, ea, eb⟩, hJ'⟩ := hR _ _ _ _ p9 q9
        cases ea
        cases eb
        have e1 : c2 = c' := e1
        subst e1
        refine EW.icmp_eq 646 dL_law_135 (by decide) (fun _ => ?_) (fun h => absurd rfl h)
        exact nx _ _ _ _ hJ' ⟨rfl, rfl, rfl, rfl, rfl, trivial⟩
      · obtain ⟨q9, -, -⟩ := q9
        obtain ⟨⟨b, ea, eb⟩, hJ'⟩ := hR _ _ _ _ p9 q9
        cases eb
    · cases ea
  · obtain ⟨p9, e9⟩ := q9
    rcases hS _ _ p9 with ⟨a, ea⟩ | ⟨i9, X, h9, ea⟩
    · cases ea
    · cases h9
set_option maxHeartbeats 2000000 in
theorem L_clear (hl : l.stackTraces = false) (hJ : J c m) (n i : Nat) (hi : i + 2 < cy 1003) (hL : cy 1003 ≤ 192) (nx : NX cy ax ad o l D base n i) : EW (LW cy ax ad o) l D cy base mL_law 2000 (50 * (n + 1)) (400 * (n + 1)) 261 (lvL cy ax ad o i) [] (c, m, f) QL := by
  obtain ⟨P, Q', hC, hB, hS, hR⟩ := O_clear (cy := cy) (ax := ax) (ad := ad) (D := D) (base := base) hl hJ
  obtain ⟨mc, ms, hmc, hms, hM⟩ := hC
  refine EW.aload_n dL_law_261 rfl rfl ?_
  refine EW.more (bc' := 50 * n + mc) (bs' := 400 * n + ms) (by omega) (by omega) ?_
  refine EW.callV (ci := 8) (mc' := mc) (ms' := ms) (LW.cls hM) mfX8_clear rfl l_L_69 mvX8_clear (by omega) dL_law_262 rfl rfl (fun hp h => h.obC) rfl (Nat.le_of_ble_eq_true rfl) (fun v s1 q9 => ?_) (fun X s1 q9 => ?_)
  · obtain ⟨c', m', g'⟩ := s1
    obtain ⟨p9, e9⟩ := q9
    cases e9
    rcases hS _ _ p9 with ⟨a, ea⟩ | ⟨i9, X, h9, ea⟩
    · cases ea
      refine EW.aload_n dL_law_265 rfl rfl ?_
      refine EW.callV (ci := 9) (bc := 50 * n) (bs := 400 * n) (mc' := 0) (ms' := 0) (LW.ref hB) mfX9_clear rfl l_L_72 mvX9_clear (by omega) dL_law_266 rfl rfl (fun hp h => h.obM) rfl (Nat.le_of_ble_eq_true rfl) (fun v s1 q9 => ?_) (fun X s1 q9 => ?_)
      · obtain ⟨c2, m2, g2⟩ := s1
        obtain ⟨q9, e1, e2⟩ := q9
        obtain ⟨⟨b, ea, eb⟩, hJ'⟩ := hR _ _ _ _ p9 q9
        cases ea
        cases eb
        have e1 : c2 = c' := e1
        subst e1
        refine EW.icmp_eq 646 dL_law_269 (by decide) (fun _ => ?_) (fun h => absurd rfl h)
        exact nx _ _ _ _ hJ' ⟨rfl, rfl, rfl, rfl, rfl, trivial⟩
      · obtain ⟨q9, -, -⟩ := q9
        obtain ⟨⟨b, ea, eb⟩, hJ'⟩ := hR _ _ _ _ p9 q9
        cases eb
    · cases ea
  · obtain ⟨p9, e9⟩ := q9
    rcases hS _ _ p9 with ⟨a, ea⟩ | ⟨i9, X, h9, ea⟩
    · cases ea
    · cases h9
set_option maxHeartbeats 2000000 in
theorem L_check (hl : l.stackTraces = false) (hJ : J c m) (n i : Nat) (hi : i + 2 < cy 1003) (hL : cy 1003 ≤ 192) (nx : NX cy ax ad o l D base n i) : EW (LW cy ax ad o) l D cy base mL_law 2000 (50 * (n + 1)) (400 * (n + 1)) 330 (lvL cy ax ad o i) [] (c, m, f) QL := by
  obtain ⟨P, Q', hC, hB, hS, hR⟩ := O_check (cy := cy) (ax := ax) (ad := ad) (D := D) (base := base) hl hJ
  obtain ⟨mc, ms, hmc, hms, hM⟩ := hC
  refine EW.aload_n dL_law_330 rfl rfl ?_
  refine EW.more (bc' := 50 * n + mc) (bs' := 400 * n + ms) (by omega) (by omega) ?_
  refine EW.callV (ci := 8) (mc' := mc) (ms' := ms) (LW.cls hM) mfX8_check rfl l_L_76 mvX8_check (by omega) dL_law_331 rfl rfl (fun hp h => h.obC) rfl (Nat.le_of_ble_eq_true rfl) (fun v s1 q9 => ?_) (fun X s1 q9 => ?_)
  · obtain ⟨c', m', g'⟩ := s1
    obtain ⟨p9, e9⟩ := q9
    cases e9
    rcases hS _ _ p9 with ⟨a, ea⟩ | ⟨i9, X, h9, ea⟩
    · cases ea
      refine EW.aload_n dL_law_334 rfl rfl ?_
      refine EW.callV (ci := 9) (bc := 50 * n) (bs := 400 * n) (mc' := 0) (ms' := 0) (LW.ref hB) mfX9_check rfl l_L_79 mvX9_check (by omega) dL_law_335 rfl rfl (fun hp h => h.obM) rfl (Nat.le_of_ble_eq_true rfl) (fun v s1 q9 => ?_) (fun X s1 q9 => ?_)
      · obtain ⟨c2, m2, g2⟩ := s1
        obtain ⟨q9, e1, e2⟩ := q9
        obtain ⟨⟨b, ea, eb⟩, hJ'⟩ := hR _ _ _ _ p9 q9
        cases ea
        cases eb
        have e1 : c2 = c' := e1
        subst e1
        refine EW.icmp_eq 646 dL_law_338 (by decide) (fun _ => ?_) (fun h => absurd rfl h)
        exact nx _ _ _ _ hJ' ⟨rfl, rfl, rfl, rfl, rfl, trivial⟩
      · obtain ⟨q9, -, -⟩ := q9
        obtain ⟨⟨b, ea, eb⟩, hJ'⟩ := hR _ _ _ _ p9 q9
        cases eb
    · cases ea
  · obtain ⟨p9, e9⟩ := q9
    rcases hS _ _ p9 with ⟨a, ea⟩ | ⟨i9, X, h9, ea⟩
    · cases ea
    · cases h9
set_option maxHeartbeats 2000000 in
theorem L_drop (hl : l.stackTraces = false) (hJ : J c m) (n i : Nat) (hi : i + 2 < cy 1003) (hL : cy 1003 ≤ 192) (nx : NX cy ax ad o l D base n i) : EW (LW cy ax ad o) l D cy base mL_law 2000 (50 * (n + 1)) (400 * (n + 1)) 140 (lvL cy ax ad o i) [] (c, m, f) QL := by
  obtain ⟨P, Q', hC, hB, hS, hR⟩ := O_drop (cy := cy) (ax := ax) (ad := ad) (D := D) (base := base) hl hJ (nI (cy (2000 + (i + 1))))
  obtain ⟨mc, ms, hmc, hms, hM⟩ := hC
  refine EW.aload_n dL_law_140 rfl rfl ?_
  refine EW.aload_n dL_law_141 rfl rfl ?_
  refine EW.iload dL_law_142 rfl ?_
  refine EW.ic 1 dL_law_144 ?_
  refine EW.iadd dL_law_145 ?_
  rw [nI_add]
  refine EW.sld (i + 1) dL_law_146 (by omega) hL ?_
  refine EW.aload_n dL_law_147 rfl rfl ?_
  refine EW.more (bc' := 50 * n + mc) (bs' := 400 * n + ms) (by omega) (by omega) ?_
  refine EW.callSH (mc' := mc) (ms' := ms) (H_drop hl (nI (cy (2000 + (i + 1)))) hM hS) mfL_drop (List.cons_ne_nil _ _) l_L_56 mvL_drop (by omega) dL_law_148 rfl rfl (Nat.le_of_ble_eq_true rfl) (fun v s1 q9 => ?_) (fun X s1 q => by obtain ⟨_, _, _, _, _, e, _⟩ := q; cases e)
  obtain ⟨c', m', g'⟩ := s1
  obtain ⟨o1, k1, p9, e1, k3, e2, e3⟩ := q9
  have e1 : m' = m := e1
  subst e1
  cases e2
  refine EW.istore dL_law_151 (by decide) ?_
  refine EW.loc (lv' := (5, .int (nI k1)) :: lvL cy ax ad o i) ⟨rfl, rfl, rfl, rfl, rfl, rfl, trivial⟩ ?_
  refine EW.aload_n dL_law_153 rfl rfl ?_
  refine EW.aload_n dL_law_154 rfl rfl ?_
  refine EW.iload dL_law_155 rfl ?_
  refine EW.ic 1 dL_law_157 ?_
  refine EW.iadd dL_law_158 ?_
  rw [nI_add]
  refine EW.sld (i + 1) dL_law_159 (by omega) hL ?_
  refine EW.callV (ci := 9) (bc := 50 * n) (bs := 400 * n) (mc' := 0) (ms' := 0) (LW.ref hB) mfX9_drop rfl l_L_61 mvX9_drop (by omega) dL_law_160 rfl rfl (fun hp h => h.obM) rfl (Nat.le_of_ble_eq_true rfl) (fun v s1 q9 => ?_) (fun X s1 q9 => ?_)
  · obtain ⟨c2, m2, g2⟩ := s1
    obtain ⟨q9, e1, e2⟩ := q9
    have e1 : c2 = c' := e1
    have e2 : g2 = g' := e2
    subst e1
    subst e2
    obtain ⟨⟨b, k2, k4, e4, e5, e6⟩, hJ'⟩ := hR _ _ _ _ p9 q9
    cases e4
    obtain ⟨e7, e8⟩ := HT_eq (xs := [yCls]) (F := fun a => if (true : Bool) then (if a = 0 then 0 else 1) else a.toInt64) (by decide +kernel) e3 e6
    subst e7
    refine EW.istore dL_law_163 (by decide) ?_
    refine EW.loc (lv' := (6, .int b) :: (5, .int (nI k1)) :: lvL cy ax ad o i) ⟨rfl, rfl, rfl, rfl, rfl, rfl, rfl, trivial⟩ ?_
    refine EW.aload_n dL_law_165 rfl rfl ?_
    refine EW.callV (ci := 9) (bc := 50 * n) (bs := 400 * n) (mc' := 0) (ms' := 0) (LW.ref (Q := fun o s => o = .inl (some (.int (m2.1 0))) ∧ s = m2) (fun hp0 => M_thrown hl 1800 m2)) mfX9_thrown rfl l_L_62 mvX9_thrown (by omega) dL_law_166 rfl rfl (fun hp h => h.obM) rfl (Nat.le_of_ble_eq_true rfl) (fun v s1 q9 => ?_) (fun X s1 q9 => nomatch q9.1.1)
    obtain ⟨c3, m3, g3⟩ := s1
    obtain ⟨⟨e9, ea⟩, eb, ec⟩ := q9
    have ea : m3 = m2 := ea
    have eb : c3 = c2 := eb
    have ec : g3 = g2 := ec
    subst ea
    subst eb
    subst ec
    cases e9
    refine EW.iload dL_law_169 rfl ?_
    refine EW.icmp_eq 176 dL_law_171 (by decide) (fun _ => ?_) (fun h => absurd e5 h)
    refine EW.iload dL_law_176 rfl ?_
    refine EW.if_ne 200 dL_law_178 (by decide) (fun _ => ?_) (fun h0 => ?_)
    · refine EW.goto 646 dL_law_200 (by decide) ?_
      exact nx _ _ _ _ hJ' ⟨rfl, rfl, rfl, rfl, rfl, trivial⟩
    · have hk0 : k1 = 0 := (nI_eq0 (by omega)).mp h0
      have eg : g3 0 = if b = 0 then 0 else 1 := e8 hk0
      refine EW.aload_n dL_law_181 rfl rfl ?_
      refine EW.ic 0 dL_law_182 ?_
      refine ELW.lald dL_law_183 ?_
      refine EW.iload dL_law_184 rfl ?_
      refine EW.if_eq 193 dL_law_186 (by decide) (fun cb => ?_) (fun cb => ?_)
      · refine EW.lconst (v := 0) dL_law_193 rfl ?_
        refine EW.lcmp dL_law_194 ?_
        have ez : lg_cmp (g3 0) 0 = 0 := by rw [eg, if_pos cb]; exact lg_self _
        refine EW.if_eq 200 dL_law_195 (by decide) (fun _ => ?_) (fun h => absurd ez h)
        refine EW.goto 646 dL_law_200 (by decide) ?_
        exact nx _ _ _ _ hJ' ⟨rfl, rfl, rfl, rfl, rfl, trivial⟩
      · refine EW.lconst (v := 1) dL_law_189 rfl ?_
        refine EW.goto 194 dL_law_190 (by decide) ?_
        refine EW.lcmp dL_law_194 ?_
        have ez : lg_cmp (g3 0) 1 = 0 := by rw [eg, if_neg cb]; exact lg_self _
        refine EW.if_eq 200 dL_law_195 (by decide) (fun _ => ?_) (fun h => absurd ez h)
        refine EW.goto 646 dL_law_200 (by decide) ?_
        exact nx _ _ _ _ hJ' ⟨rfl, rfl, rfl, rfl, rfl, trivial⟩
  · obtain ⟨q9, -, -⟩ := q9
    obtain ⟨⟨b, k2, k4, e4, -⟩, -⟩ := hR _ _ _ _ p9 q9
    cases e4
set_option maxHeartbeats 2000000 in
theorem L_feed (hl : l.stackTraces = false) (hJ : J c m) (n i : Nat) (hi : i + 2 < cy 1003) (hL : cy 1003 ≤ 192) (nx : NX cy ax ad o l D base n i) : EW (LW cy ax ad o) l D cy base mL_law 2000 (50 * (n + 1)) (400 * (n + 1)) 203 (lvL cy ax ad o i) [] (c, m, f) QL := by
  obtain ⟨k, hk, ek⟩ := i2c_nI (nI (cy (2000 + (i + 1))))
  obtain ⟨P, Q', hC, hB, hS, hR⟩ := O_feed (cy := cy) (ax := ax) (ad := ad) (D := D) (base := base) hl hJ k hk
  obtain ⟨mc, ms, hmc, hms, hM⟩ := hC
  refine EW.aload_n dL_law_203 rfl rfl ?_
  refine EW.aload_n dL_law_204 rfl rfl ?_
  refine EW.iload dL_law_205 rfl ?_
  refine EW.ic 1 dL_law_207 ?_
  refine EW.iadd dL_law_208 ?_
  rw [nI_add]
  refine EW.sld (i + 1) dL_law_209 (by omega) hL ?_
  refine EW.i2c dL_law_210 ek ?_
  refine EW.aload_n dL_law_211 rfl rfl ?_
  refine EW.more (bc' := 50 * n + mc) (bs' := 400 * n + ms) (by omega) (by omega) ?_
  refine EW.callSH (mc' := mc) (ms' := ms) (H_feed hl (nI k) hM hS) mfL_feed (List.cons_ne_nil _ _) l_L_65 mvL_feed (by omega) dL_law_212 rfl rfl (Nat.le_of_ble_eq_true rfl) (fun v s1 q9 => ?_) (fun X s1 q => by obtain ⟨_, _, _, _, _, e, _⟩ := q; cases e)
  obtain ⟨c', m', g'⟩ := s1
  obtain ⟨o1, k1, p9, e1, k3, e2, e3⟩ := q9
  have e1 : m' = m := e1
  subst e1
  cases e2
  refine EW.istore dL_law_215 (by decide) ?_
  refine EW.loc (lv' := (5, .int (nI k1)) :: lvL cy ax ad o i) ⟨rfl, rfl, rfl, rfl, rfl, rfl, trivial⟩ ?_
  refine EW.aload_n dL_law_217 rfl rfl ?_
  refine EW.aload_n dL_law_218 rfl rfl ?_
  refine EW.iload dL_law_219 rfl ?_
  refine EW.ic 1 dL_law_221 ?_
  refine EW.iadd dL_law_222 ?_
  rw [nI_add]
  refine EW.sld (i + 1) dL_law_223 (by omega) hL ?_
  refine EW.i2c dL_law_224 ek ?_
  refine EW.callV (ci := 9) (bc := 50 * n) (bs := 400 * n) (mc' := 0) (ms' := 0) (LW.ref hB) mfX9_feed rfl l_L_68 mvX9_feed (by omega) dL_law_225 rfl rfl (fun hp h => h.obM) rfl (Nat.le_of_ble_eq_true rfl) (fun v s1 q9 => ?_) (fun X s1 q9 => ?_)
  · obtain ⟨c2, m2, g2⟩ := s1
    obtain ⟨q9, e1, e2⟩ := q9
    have e1 : c2 = c' := e1
    have e2 : g2 = g' := e2
    subst e1
    subst e2
    obtain ⟨⟨b, k2, k4, e4, e5, e6⟩, hJ'⟩ := hR _ _ _ _ p9 q9
    cases e4
    obtain ⟨e7, e8⟩ := HT_eq (xs := ["java/lang/IllegalArgumentException", "java/lang/IllegalStateException"]) (F := fun a => if (false : Bool) then (if a = 0 then 0 else 1) else a.toInt64) (by decide +kernel) e3 e6
    subst e7
    refine EW.istore dL_law_228 (by decide) ?_
    refine EW.loc (lv' := (6, .int b) :: (5, .int (nI k1)) :: lvL cy ax ad o i) ⟨rfl, rfl, rfl, rfl, rfl, rfl, rfl, trivial⟩ ?_
    refine EW.aload_n dL_law_230 rfl rfl ?_
    refine EW.callV (ci := 9) (bc := 50 * n) (bs := 400 * n) (mc' := 0) (ms' := 0) (LW.ref (Q := fun o s => o = .inl (some (.int (m2.1 0))) ∧ s = m2) (fun hp0 => M_thrown hl 1800 m2)) mfX9_thrown rfl l_L_62 mvX9_thrown (by omega) dL_law_231 rfl rfl (fun hp h => h.obM) rfl (Nat.le_of_ble_eq_true rfl) (fun v s1 q9 => ?_) (fun X s1 q9 => nomatch q9.1.1)
    obtain ⟨c3, m3, g3⟩ := s1
    obtain ⟨⟨e9, ea⟩, eb, ec⟩ := q9
    have ea : m3 = m2 := ea
    have eb : c3 = c2 := eb
    have ec : g3 = g2 := ec
    subst ea
    subst eb
    subst ec
    cases e9
    refine EW.iload dL_law_234 rfl ?_
    refine EW.icmp_eq 241 dL_law_236 (by decide) (fun _ => ?_) (fun h => absurd e5 h)
    refine EW.iload dL_law_241 rfl ?_
    refine EW.if_ne 258 dL_law_243 (by decide) (fun _ => ?_) (fun h0 => ?_)
    · refine EW.goto 646 dL_law_258 (by decide) ?_
      exact nx _ _ _ _ hJ' ⟨rfl, rfl, rfl, rfl, rfl, trivial⟩
    · have hk0 : k1 = 0 := (nI_eq0 (by omega)).mp h0
      have eg : g3 0 = b.toInt64 := e8 hk0
      refine EW.aload_n dL_law_246 rfl rfl ?_
      refine EW.ic 0 dL_law_247 ?_
      refine ELW.lald dL_law_248 ?_
      refine EW.iload dL_law_249 rfl ?_
      refine EW.i2l dL_law_251 rfl ?_
      refine EW.lcmp dL_law_252 ?_
      have ez : lg_cmp (g3 0) b.toInt64 = 0 := by rw [eg]; exact lg_self _
      refine EW.if_eq 258 dL_law_253 (by decide) (fun _ => ?_) (fun h => absurd ez h)
      refine EW.goto 646 dL_law_258 (by decide) ?_
      exact nx _ _ _ _ hJ' ⟨rfl, rfl, rfl, rfl, rfl, trivial⟩
  · obtain ⟨q9, -, -⟩ := q9
    obtain ⟨⟨b, k2, k4, e4, -⟩, -⟩ := hR _ _ _ _ p9 q9
    cases e4
set_option maxHeartbeats 2000000 in
theorem L_outcomes (hl : l.stackTraces = false) (hJ : J c m) (n i : Nat) (hi : i + 2 < cy 1003) (hL : cy 1003 ≤ 192) (nx : NX cy ax ad o l D base n i) : EW (LW cy ax ad o) l D cy base mL_law 2000 (50 * (n + 1)) (400 * (n + 1)) 274 (lvL cy ax ad o i) [] (c, m, f) QL := by
  obtain ⟨P, Q', hC, hB, hS, hR⟩ := O_outcomes (cy := cy) (ax := ax) (ad := ad) (D := D) (base := base) hl hJ (nI (cy (2000 + (i + 1))))
  obtain ⟨mc, ms, hmc, hms, hM⟩ := hC
  refine EW.aload_n dL_law_274 rfl rfl ?_
  refine EW.aload_n dL_law_275 rfl rfl ?_
  refine EW.iload dL_law_276 rfl ?_
  refine EW.ic 1 dL_law_278 ?_
  refine EW.iadd dL_law_279 ?_
  rw [nI_add]
  refine EW.sld (i + 1) dL_law_280 (by omega) hL ?_
  refine EW.aload_n dL_law_281 rfl rfl ?_
  refine EW.more (bc' := 50 * n + mc) (bs' := 400 * n + ms) (by omega) (by omega) ?_
  refine EW.callSH (mc' := mc) (ms' := ms) (H_outcomes hl (nI (cy (2000 + (i + 1)))) hM hS) mfL_outcomes (List.cons_ne_nil _ _) l_L_73 mvL_outcomes (by omega) dL_law_282 rfl rfl (Nat.le_of_ble_eq_true rfl) (fun v s1 q9 => ?_) (fun X s1 q => by obtain ⟨_, _, _, _, _, e, _⟩ := q; cases e)
  obtain ⟨c', m', g'⟩ := s1
  obtain ⟨o1, k1, p9, e1, k3, e2, e3⟩ := q9
  have e1 : m' = m := e1
  subst e1
  cases e2
  refine EW.istore dL_law_285 (by decide) ?_
  refine EW.loc (lv' := (5, .int (nI k1)) :: lvL cy ax ad o i) ⟨rfl, rfl, rfl, rfl, rfl, rfl, trivial⟩ ?_
  refine EW.aload_n dL_law_287 rfl rfl ?_
  refine EW.aload_n dL_law_288 rfl rfl ?_
  refine EW.iload dL_law_289 rfl ?_
  refine EW.ic 1 dL_law_291 ?_
  refine EW.iadd dL_law_292 ?_
  rw [nI_add]
  refine EW.sld (i + 1) dL_law_293 (by omega) hL ?_
  refine EW.callV (ci := 9) (bc := 50 * n) (bs := 400 * n) (mc' := 0) (ms' := 0) (LW.ref hB) mfX9_outcomes rfl l_L_75 mvX9_outcomes (by omega) dL_law_294 rfl rfl (fun hp h => h.obM) rfl (Nat.le_of_ble_eq_true rfl) (fun v s1 q9 => ?_) (fun X s1 q9 => ?_)
  · obtain ⟨c2, m2, g2⟩ := s1
    obtain ⟨q9, e1, e2⟩ := q9
    have e1 : c2 = c' := e1
    have e2 : g2 = g' := e2
    subst e1
    subst e2
    obtain ⟨⟨b, k2, k4, e4, e5, e6⟩, hJ'⟩ := hR _ _ _ _ p9 q9
    cases e4
    obtain ⟨e7, e8⟩ := HT_eq (xs := [yCls, "java/lang/IllegalStateException"]) (F := fun a => if (false : Bool) then (if a = 0 then 0 else 1) else a.toInt64) (by decide +kernel) e3 e6
    subst e7
    refine EW.istore dL_law_297 (by decide) ?_
    refine EW.loc (lv' := (6, .int b) :: (5, .int (nI k1)) :: lvL cy ax ad o i) ⟨rfl, rfl, rfl, rfl, rfl, rfl, rfl, trivial⟩ ?_
    refine EW.aload_n dL_law_299 rfl rfl ?_
    refine EW.callV (ci := 9) (bc := 50 * n) (bs := 400 * n) (mc' := 0) (ms' := 0) (LW.ref (Q := fun o s => o = .inl (some (.int (m2.1 0))) ∧ s = m2) (fun hp0 => M_thrown hl 1800 m2)) mfX9_thrown rfl l_L_62 mvX9_thrown (by omega) dL_law_300 rfl rfl (fun hp h => h.obM) rfl (Nat.le_of_ble_eq_true rfl) (fun v s1 q9 => ?_) (fun X s1 q9 => nomatch q9.1.1)
    obtain ⟨c3, m3, g3⟩ := s1
    obtain ⟨⟨e9, ea⟩, eb, ec⟩ := q9
    have ea : m3 = m2 := ea
    have eb : c3 = c2 := eb
    have ec : g3 = g2 := ec
    subst ea
    subst eb
    subst ec
    cases e9
    refine EW.iload dL_law_303 rfl ?_
    refine EW.icmp_eq 310 dL_law_305 (by decide) (fun _ => ?_) (fun h => absurd e5 h)
    refine EW.iload dL_law_310 rfl ?_
    refine EW.if_ne 327 dL_law_312 (by decide) (fun _ => ?_) (fun h0 => ?_)
    · refine EW.goto 646 dL_law_327 (by decide) ?_
      exact nx _ _ _ _ hJ' ⟨rfl, rfl, rfl, rfl, rfl, trivial⟩
    · have hk0 : k1 = 0 := (nI_eq0 (by omega)).mp h0
      have eg : g3 0 = b.toInt64 := e8 hk0
      refine EW.aload_n dL_law_315 rfl rfl ?_
      refine EW.ic 0 dL_law_316 ?_
      refine ELW.lald dL_law_317 ?_
      refine EW.iload dL_law_318 rfl ?_
      refine EW.i2l dL_law_320 rfl ?_
      refine EW.lcmp dL_law_321 ?_
      have ez : lg_cmp (g3 0) b.toInt64 = 0 := by rw [eg]; exact lg_self _
      refine EW.if_eq 327 dL_law_322 (by decide) (fun _ => ?_) (fun h => absurd ez h)
      refine EW.goto 646 dL_law_327 (by decide) ?_
      exact nx _ _ _ _ hJ' ⟨rfl, rfl, rfl, rfl, rfl, trivial⟩
  · obtain ⟨q9, -, -⟩ := q9
    obtain ⟨⟨b, k2, k4, e4, -⟩, -⟩ := hR _ _ _ _ p9 q9
    cases e4
set_option maxHeartbeats 2000000 in
theorem L_match (hl : l.stackTraces = false) (hJ : J c m) (n i : Nat) (hi : i + 2 < cy 1003) (hL : cy 1003 ≤ 192) (nx : NX cy ax ad o l D base n i) : EW (LW cy ax ad o) l D cy base mL_law 2000 (50 * (n + 1)) (400 * (n + 1)) 343 (lvL cy ax ad o i) [] (c, m, f) QL := by
  obtain ⟨P, Q', hC, hB, hS, hR⟩ := O_match (cy := cy) (ax := ax) (ad := ad) (D := D) (base := base) hl hJ (nI (cy (2000 + (i + 1)))) (nI (cy (2000 + (i + 2))))
  obtain ⟨mc, ms, hmc, hms, hM⟩ := hC
  refine EW.aload_n dL_law_343 rfl rfl ?_
  refine EW.aload_n dL_law_344 rfl rfl ?_
  refine EW.iload dL_law_345 rfl ?_
  refine EW.ic 1 dL_law_347 ?_
  refine EW.iadd dL_law_348 ?_
  rw [nI_add]
  refine EW.sld (i + 1) dL_law_349 (by omega) hL ?_
  refine EW.aload_n dL_law_350 rfl rfl ?_
  refine EW.iload dL_law_351 rfl ?_
  refine EW.ic 2 dL_law_353 ?_
  refine EW.iadd dL_law_354 ?_
  rw [nI_add]
  refine EW.sld (i + 2) dL_law_355 (by omega) hL ?_
  refine EW.aload_n dL_law_356 rfl rfl ?_
  refine EW.more (bc' := 50 * n + mc) (bs' := 400 * n + ms) (by omega) (by omega) ?_
  refine EW.callSH (mc' := mc) (ms' := ms) (H_match hl (nI (cy (2000 + (i + 1)))) (nI (cy (2000 + (i + 2)))) hM hS) mfL_match (List.cons_ne_nil _ _) l_L_80 mvL_match (by omega) dL_law_357 rfl rfl (Nat.le_of_ble_eq_true rfl) (fun v s1 q9 => ?_) (fun X s1 q => by obtain ⟨_, _, _, _, _, e, _⟩ := q; cases e)
  obtain ⟨c', m', g'⟩ := s1
  obtain ⟨o1, k1, p9, e1, k3, e2, e3⟩ := q9
  have e1 : m' = m := e1
  subst e1
  cases e2
  refine EW.istore dL_law_360 (by decide) ?_
  refine EW.loc (lv' := (5, .int (nI k1)) :: lvL cy ax ad o i) ⟨rfl, rfl, rfl, rfl, rfl, rfl, trivial⟩ ?_
  refine EW.aload_n dL_law_362 rfl rfl ?_
  refine EW.aload_n dL_law_363 rfl rfl ?_
  refine EW.iload dL_law_364 rfl ?_
  refine EW.ic 1 dL_law_366 ?_
  refine EW.iadd dL_law_367 ?_
  rw [nI_add]
  refine EW.sld (i + 1) dL_law_368 (by omega) hL ?_
  refine EW.aload_n dL_law_369 rfl rfl ?_
  refine EW.iload dL_law_370 rfl ?_
  refine EW.ic 2 dL_law_372 ?_
  refine EW.iadd dL_law_373 ?_
  rw [nI_add]
  refine EW.sld (i + 2) dL_law_374 (by omega) hL ?_
  refine EW.callV (ci := 9) (bc := 50 * n) (bs := 400 * n) (mc' := 0) (ms' := 0) (LW.ref hB) mfX9_match rfl l_L_83 mvX9_match (by omega) dL_law_375 rfl rfl (fun hp h => h.obM) rfl (Nat.le_of_ble_eq_true rfl) (fun v s1 q9 => ?_) (fun X s1 q9 => ?_)
  · obtain ⟨c2, m2, g2⟩ := s1
    obtain ⟨q9, e1, e2⟩ := q9
    have e1 : c2 = c' := e1
    have e2 : g2 = g' := e2
    subst e1
    subst e2
    obtain ⟨⟨b, k2, k4, e4, e5, e6⟩, hJ'⟩ := hR _ _ _ _ p9 q9
    cases e4
    obtain ⟨e7, e8⟩ := HT_eq (xs := xMat) (F := fun a => if (false : Bool) then (if a = 0 then 0 else 1) else a.toInt64) (by decide +kernel) e3 e6
    subst e7
    refine EW.istore dL_law_378 (by decide) ?_
    refine EW.loc (lv' := (6, .int b) :: (5, .int (nI k1)) :: lvL cy ax ad o i) ⟨rfl, rfl, rfl, rfl, rfl, rfl, rfl, trivial⟩ ?_
    refine EW.aload_n dL_law_380 rfl rfl ?_
    refine EW.callV (ci := 9) (bc := 50 * n) (bs := 400 * n) (mc' := 0) (ms' := 0) (LW.ref (Q := fun o s => o = .inl (some (.int (m2.1 0))) ∧ s = m2) (fun hp0 => M_thrown hl 1800 m2)) mfX9_thrown rfl l_L_62 mvX9_thrown (by omega) dL_law_381 rfl rfl (fun hp h => h.obM) rfl (Nat.le_of_ble_eq_true rfl) (fun v s1 q9 => ?_) (fun X s1 q9 => nomatch q9.1.1)
    obtain ⟨c3, m3, g3⟩ := s1
    obtain ⟨⟨e9, ea⟩, eb, ec⟩ := q9
    have ea : m3 = m2 := ea
    have eb : c3 = c2 := eb
    have ec : g3 = g2 := ec
    subst ea
    subst eb
    subst ec
    cases e9
    refine EW.iload dL_law_384 rfl ?_
    refine EW.icmp_eq 391 dL_law_386 (by decide) (fun _ => ?_) (fun h => absurd e5 h)
    refine EW.iload dL_law_391 rfl ?_
    refine EW.if_ne 408 dL_law_393 (by decide) (fun _ => ?_) (fun h0 => ?_)
    · refine EW.goto 646 dL_law_408 (by decide) ?_
      exact nx _ _ _ _ hJ' ⟨rfl, rfl, rfl, rfl, rfl, trivial⟩
    · have hk0 : k1 = 0 := (nI_eq0 (by omega)).mp h0
      have eg : g3 0 = b.toInt64 := e8 hk0
      refine EW.aload_n dL_law_396 rfl rfl ?_
      refine EW.ic 0 dL_law_397 ?_
      refine ELW.lald dL_law_398 ?_
      refine EW.iload dL_law_399 rfl ?_
      refine EW.i2l dL_law_401 rfl ?_
      refine EW.lcmp dL_law_402 ?_
      have ez : lg_cmp (g3 0) b.toInt64 = 0 := by rw [eg]; exact lg_self _
      refine EW.if_eq 408 dL_law_403 (by decide) (fun _ => ?_) (fun h => absurd ez h)
      refine EW.goto 646 dL_law_408 (by decide) ?_
      exact nx _ _ _ _ hJ' ⟨rfl, rfl, rfl, rfl, rfl, trivial⟩
  · obtain ⟨q9, -, -⟩ := q9
    obtain ⟨⟨b, k2, k4, e4, -⟩, -⟩ := hR _ _ _ _ p9 q9
    cases e4
set_option maxHeartbeats 2000000 in
theorem L_memory (hl : l.stackTraces = false) (hJ : J c m) (n i : Nat) (hi : i + 2 < cy 1003) (hL : cy 1003 ≤ 192) (nx : NX cy ax ad o l D base n i) : EW (LW cy ax ad o) l D cy base mL_law 2000 (50 * (n + 1)) (400 * (n + 1)) 411 (lvL cy ax ad o i) [] (c, m, f) QL := by
  obtain ⟨P, Q', hC, hB, hS, hR⟩ := O_memory (cy := cy) (ax := ax) (ad := ad) (D := D) (base := base) hl hJ (nI (cy (2000 + (i + 1)))) (nI (cy (2000 + (i + 2))))
  obtain ⟨mc, ms, hmc, hms, hM⟩ := hC
  refine EW.aload_n dL_law_411 rfl rfl ?_
  refine EW.aload_n dL_law_412 rfl rfl ?_
  refine EW.iload dL_law_413 rfl ?_
  refine EW.ic 1 dL_law_415 ?_
  refine EW.iadd dL_law_416 ?_
  rw [nI_add]
  refine EW.sld (i + 1) dL_law_417 (by omega) hL ?_
  refine EW.aload_n dL_law_418 rfl rfl ?_
  refine EW.iload dL_law_419 rfl ?_
  refine EW.ic 2 dL_law_421 ?_
  refine EW.iadd dL_law_422 ?_
  rw [nI_add]
  refine EW.sld (i + 2) dL_law_423 (by omega) hL ?_
  refine EW.aload_n dL_law_424 rfl rfl ?_
  refine EW.more (bc' := 50 * n + mc) (bs' := 400 * n + ms) (by omega) (by omega) ?_
  refine EW.callSH (mc' := mc) (ms' := ms) (H_memory hl (nI (cy (2000 + (i + 1)))) (nI (cy (2000 + (i + 2)))) hM hS) mfL_memory (List.cons_ne_nil _ _) l_L_84 mvL_memory (by omega) dL_law_425 rfl rfl (Nat.le_of_ble_eq_true rfl) (fun v s1 q9 => ?_) (fun X s1 q => by obtain ⟨_, _, _, _, _, e, _⟩ := q; cases e)
  obtain ⟨c', m', g'⟩ := s1
  obtain ⟨o1, k1, p9, e1, k3, e2, e3⟩ := q9
  have e1 : m' = m := e1
  subst e1
  cases e2
  refine EW.istore dL_law_428 (by decide) ?_
  refine EW.loc (lv' := (5, .int (nI k1)) :: lvL cy ax ad o i) ⟨rfl, rfl, rfl, rfl, rfl, rfl, trivial⟩ ?_
  refine EW.aload_n dL_law_430 rfl rfl ?_
  refine EW.aload_n dL_law_431 rfl rfl ?_
  refine EW.iload dL_law_432 rfl ?_
  refine EW.ic 1 dL_law_434 ?_
  refine EW.iadd dL_law_435 ?_
  rw [nI_add]
  refine EW.sld (i + 1) dL_law_436 (by omega) hL ?_
  refine EW.aload_n dL_law_437 rfl rfl ?_
  refine EW.iload dL_law_438 rfl ?_
  refine EW.ic 2 dL_law_440 ?_
  refine EW.iadd dL_law_441 ?_
  rw [nI_add]
  refine EW.sld (i + 2) dL_law_442 (by omega) hL ?_
  refine EW.callV (ci := 9) (bc := 50 * n) (bs := 400 * n) (mc' := 0) (ms' := 0) (LW.ref hB) mfX9_memory rfl l_L_86 mvX9_memory (by omega) dL_law_443 rfl rfl (fun hp h => h.obM) rfl (Nat.le_of_ble_eq_true rfl) (fun v s1 q9 => ?_) (fun X s1 q9 => ?_)
  · obtain ⟨c2, m2, g2⟩ := s1
    obtain ⟨q9, e1, e2⟩ := q9
    have e1 : c2 = c' := e1
    have e2 : g2 = g' := e2
    subst e1
    subst e2
    obtain ⟨⟨b, k2, k4, e4, e5, e6⟩, hJ'⟩ := hR _ _ _ _ p9 q9
    cases e4
    obtain ⟨e7, e8⟩ := HT_eq (xs := ["java/lang/IndexOutOfBoundsException"]) (F := fun a => if (false : Bool) then (if a = 0 then 0 else 1) else a.toInt64) (by decide +kernel) e3 e6
    subst e7
    refine EW.istore dL_law_446 (by decide) ?_
    refine EW.loc (lv' := (6, .int b) :: (5, .int (nI k1)) :: lvL cy ax ad o i) ⟨rfl, rfl, rfl, rfl, rfl, rfl, rfl, trivial⟩ ?_
    refine EW.aload_n dL_law_448 rfl rfl ?_
    refine EW.callV (ci := 9) (bc := 50 * n) (bs := 400 * n) (mc' := 0) (ms' := 0) (LW.ref (Q := fun o s => o = .inl (some (.int (m2.1 0))) ∧ s = m2) (fun hp0 => M_thrown hl 1800 m2)) mfX9_thrown rfl l_L_62 mvX9_thrown (by omega) dL_law_449 rfl rfl (fun hp h => h.obM) rfl (Nat.le_of_ble_eq_true rfl) (fun v s1 q9 => ?_) (fun X s1 q9 => nomatch q9.1.1)
    obtain ⟨c3, m3, g3⟩ := s1
    obtain ⟨⟨e9, ea⟩, eb, ec⟩ := q9
    have ea : m3 = m2 := ea
    have eb : c3 = c2 := eb
    have ec : g3 = g2 := ec
    subst ea
    subst eb
    subst ec
    cases e9
    refine EW.iload dL_law_452 rfl ?_
    refine EW.icmp_eq 459 dL_law_454 (by decide) (fun _ => ?_) (fun h => absurd e5 h)
    refine EW.iload dL_law_459 rfl ?_
    refine EW.if_ne 476 dL_law_461 (by decide) (fun _ => ?_) (fun h0 => ?_)
    · refine EW.goto 646 dL_law_476 (by decide) ?_
      exact nx _ _ _ _ hJ' ⟨rfl, rfl, rfl, rfl, rfl, trivial⟩
    · have hk0 : k1 = 0 := (nI_eq0 (by omega)).mp h0
      have eg : g3 0 = b.toInt64 := e8 hk0
      refine EW.aload_n dL_law_464 rfl rfl ?_
      refine EW.ic 0 dL_law_465 ?_
      refine ELW.lald dL_law_466 ?_
      refine EW.iload dL_law_467 rfl ?_
      refine EW.i2l dL_law_469 rfl ?_
      refine EW.lcmp dL_law_470 ?_
      have ez : lg_cmp (g3 0) b.toInt64 = 0 := by rw [eg]; exact lg_self _
      refine EW.if_eq 476 dL_law_471 (by decide) (fun _ => ?_) (fun h => absurd ez h)
      refine EW.goto 646 dL_law_476 (by decide) ?_
      exact nx _ _ _ _ hJ' ⟨rfl, rfl, rfl, rfl, rfl, trivial⟩
  · obtain ⟨q9, -, -⟩ := q9
    obtain ⟨⟨b, k2, k4, e4, -⟩, -⟩ := hR _ _ _ _ p9 q9
    cases e4
set_option maxHeartbeats 2000000 in
theorem L_node (hl : l.stackTraces = false) (hJ : J c m) (n i : Nat) (hi : i + 2 < cy 1003) (hL : cy 1003 ≤ 192) (nx : NX cy ax ad o l D base n i) : EW (LW cy ax ad o) l D cy base mL_law 2000 (50 * (n + 1)) (400 * (n + 1)) 479 (lvL cy ax ad o i) [] (c, m, f) QL := by
  obtain ⟨P, Q', hC, hB, hS, hR⟩ := O_node (cy := cy) (ax := ax) (ad := ad) (D := D) (base := base) hl hJ (nI (cy (2000 + (i + 1)))) (nI (cy (2000 + (i + 2))))
  obtain ⟨mc, ms, hmc, hms, hM⟩ := hC
  refine EW.aload_n dL_law_479 rfl rfl ?_
  refine EW.aload_n dL_law_480 rfl rfl ?_
  refine EW.iload dL_law_481 rfl ?_
  refine EW.ic 1 dL_law_483 ?_
  refine EW.iadd dL_law_484 ?_
  rw [nI_add]
  refine EW.sld (i + 1) dL_law_485 (by omega) hL ?_
  refine EW.aload_n dL_law_486 rfl rfl ?_
  refine EW.iload dL_law_487 rfl ?_
  refine EW.ic 2 dL_law_489 ?_
  refine EW.iadd dL_law_490 ?_
  rw [nI_add]
  refine EW.sld (i + 2) dL_law_491 (by omega) hL ?_
  refine EW.aload_n dL_law_492 rfl rfl ?_
  refine EW.more (bc' := 50 * n + mc) (bs' := 400 * n + ms) (by omega) (by omega) ?_
  refine EW.callSH (mc' := mc) (ms' := ms) (H_node hl (nI (cy (2000 + (i + 1)))) (nI (cy (2000 + (i + 2)))) hM hS) mfL_node (List.cons_ne_nil _ _) l_L_87 mvL_node (by omega) dL_law_493 rfl rfl (Nat.le_of_ble_eq_true rfl) (fun v s1 q9 => ?_) (fun X s1 q => by obtain ⟨_, _, _, _, _, e, _⟩ := q; cases e)
  obtain ⟨c', m', g'⟩ := s1
  obtain ⟨o1, k1, p9, e1, k3, e2, e3⟩ := q9
  have e1 : m' = m := e1
  subst e1
  cases e2
  refine EW.istore dL_law_496 (by decide) ?_
  refine EW.loc (lv' := (5, .int (nI k1)) :: lvL cy ax ad o i) ⟨rfl, rfl, rfl, rfl, rfl, rfl, trivial⟩ ?_
  refine EW.aload_n dL_law_498 rfl rfl ?_
  refine EW.aload_n dL_law_499 rfl rfl ?_
  refine EW.iload dL_law_500 rfl ?_
  refine EW.ic 1 dL_law_502 ?_
  refine EW.iadd dL_law_503 ?_
  rw [nI_add]
  refine EW.sld (i + 1) dL_law_504 (by omega) hL ?_
  refine EW.aload_n dL_law_505 rfl rfl ?_
  refine EW.iload dL_law_506 rfl ?_
  refine EW.ic 2 dL_law_508 ?_
  refine EW.iadd dL_law_509 ?_
  rw [nI_add]
  refine EW.sld (i + 2) dL_law_510 (by omega) hL ?_
  refine EW.callV (ci := 9) (bc := 50 * n) (bs := 400 * n) (mc' := 0) (ms' := 0) (LW.ref hB) mfX9_node rfl l_L_89 mvX9_node (by omega) dL_law_511 rfl rfl (fun hp h => h.obM) rfl (Nat.le_of_ble_eq_true rfl) (fun v s1 q9 => ?_) (fun X s1 q9 => ?_)
  · obtain ⟨c2, m2, g2⟩ := s1
    obtain ⟨q9, e1, e2⟩ := q9
    have e1 : c2 = c' := e1
    have e2 : g2 = g' := e2
    subst e1
    subst e2
    obtain ⟨⟨b, k2, k4, e4, e5, e6⟩, hJ'⟩ := hR _ _ _ _ p9 q9
    cases e4
    obtain ⟨e7, e8⟩ := HT_eq (xs := ["java/lang/IndexOutOfBoundsException"]) (F := fun a => if (false : Bool) then (if a = 0 then 0 else 1) else a.toInt64) (by decide +kernel) e3 e6
    subst e7
    refine EW.istore dL_law_514 (by decide) ?_
    refine EW.loc (lv' := (6, .int b) :: (5, .int (nI k1)) :: lvL cy ax ad o i) ⟨rfl, rfl, rfl, rfl, rfl, rfl, rfl, trivial⟩ ?_
    refine EW.aload_n dL_law_516 rfl rfl ?_
    refine EW.callV (ci := 9) (bc := 50 * n) (bs := 400 * n) (mc' := 0) (ms' := 0) (LW.ref (Q := fun o s => o = .inl (some (.int (m2.1 0))) ∧ s = m2) (fun hp0 => M_thrown hl 1800 m2)) mfX9_thrown rfl l_L_62 mvX9_thrown (by omega) dL_law_517 rfl rfl (fun hp h => h.obM) rfl (Nat.le_of_ble_eq_true rfl) (fun v s1 q9 => ?_) (fun X s1 q9 => nomatch q9.1.1)
    obtain ⟨c3, m3, g3⟩ := s1
    obtain ⟨⟨e9, ea⟩, eb, ec⟩ := q9
    have ea : m3 = m2 := ea
    have eb : c3 = c2 := eb
    have ec : g3 = g2 := ec
    subst ea
    subst eb
    subst ec
    cases e9
    refine EW.iload dL_law_520 rfl ?_
    refine EW.icmp_eq 527 dL_law_522 (by decide) (fun _ => ?_) (fun h => absurd e5 h)
    refine EW.iload dL_law_527 rfl ?_
    refine EW.if_ne 544 dL_law_529 (by decide) (fun _ => ?_) (fun h0 => ?_)
    · refine EW.goto 646 dL_law_544 (by decide) ?_
      exact nx _ _ _ _ hJ' ⟨rfl, rfl, rfl, rfl, rfl, trivial⟩
    · have hk0 : k1 = 0 := (nI_eq0 (by omega)).mp h0
      have eg : g3 0 = b.toInt64 := e8 hk0
      refine EW.aload_n dL_law_532 rfl rfl ?_
      refine EW.ic 0 dL_law_533 ?_
      refine ELW.lald dL_law_534 ?_
      refine EW.iload dL_law_535 rfl ?_
      refine EW.i2l dL_law_537 rfl ?_
      refine EW.lcmp dL_law_538 ?_
      have ez : lg_cmp (g3 0) b.toInt64 = 0 := by rw [eg]; exact lg_self _
      refine EW.if_eq 544 dL_law_539 (by decide) (fun _ => ?_) (fun h => absurd ez h)
      refine EW.goto 646 dL_law_544 (by decide) ?_
      exact nx _ _ _ _ hJ' ⟨rfl, rfl, rfl, rfl, rfl, trivial⟩
  · obtain ⟨q9, -, -⟩ := q9
    obtain ⟨⟨b, k2, k4, e4, -⟩, -⟩ := hR _ _ _ _ p9 q9
    cases e4
set_option maxHeartbeats 2000000 in
theorem L_count (hl : l.stackTraces = false) (hJ : J c m) (n i : Nat) (hi : i + 2 < cy 1003) (hL : cy 1003 ≤ 192) (nx : NX cy ax ad o l D base n i) : EW (LW cy ax ad o) l D cy base mL_law 2000 (50 * (n + 1)) (400 * (n + 1)) 547 (lvL cy ax ad o i) [] (c, m, f) QL := by
  obtain ⟨P, Q', hC, hB, hS, hR⟩ := O_count (cy := cy) (ax := ax) (ad := ad) (D := D) (base := base) hl hJ (nI (cy (2000 + (i + 1))))
  obtain ⟨mc, ms, hmc, hms, hM⟩ := hC
  refine EW.aload_n dL_law_547 rfl rfl ?_
  refine EW.aload_n dL_law_548 rfl rfl ?_
  refine EW.iload dL_law_549 rfl ?_
  refine EW.ic 1 dL_law_551 ?_
  refine EW.iadd dL_law_552 ?_
  rw [nI_add]
  refine EW.sld (i + 1) dL_law_553 (by omega) hL ?_
  refine EW.aload_n dL_law_554 rfl rfl ?_
  refine EW.more (bc' := 50 * n + mc) (bs' := 400 * n + ms) (by omega) (by omega) ?_
  refine EW.callSH (mc' := mc) (ms' := ms) (H_count hl (nI (cy (2000 + (i + 1)))) hM hS) mfL_count (List.cons_ne_nil _ _) l_L_90 mvL_count (by omega) dL_law_555 rfl rfl (Nat.le_of_ble_eq_true rfl) (fun v s1 q9 => ?_) (fun X s1 q => by obtain ⟨_, _, _, _, _, e, _⟩ := q; cases e)
  obtain ⟨c', m', g'⟩ := s1
  obtain ⟨o1, k1, p9, e1, k3, e2, e3⟩ := q9
  have e1 : m' = m := e1
  subst e1
  cases e2
  refine EW.istore dL_law_558 (by decide) ?_
  refine EW.loc (lv' := (5, .int (nI k1)) :: lvL cy ax ad o i) ⟨rfl, rfl, rfl, rfl, rfl, rfl, trivial⟩ ?_
  refine EW.aload_n dL_law_560 rfl rfl ?_
  refine EW.aload_n dL_law_561 rfl rfl ?_
  refine EW.iload dL_law_562 rfl ?_
  refine EW.ic 1 dL_law_564 ?_
  refine EW.iadd dL_law_565 ?_
  rw [nI_add]
  refine EW.sld (i + 1) dL_law_566 (by omega) hL ?_
  refine EW.callV (ci := 9) (bc := 50 * n) (bs := 400 * n) (mc' := 0) (ms' := 0) (LW.ref hB) mfX9_count rfl l_L_92 mvX9_count (by omega) dL_law_567 rfl rfl (fun hp h => h.obM) rfl (Nat.le_of_ble_eq_true rfl) (fun v s1 q9 => ?_) (fun X s1 q9 => ?_)
  · obtain ⟨c2, m2, g2⟩ := s1
    obtain ⟨q9, e1, e2⟩ := q9
    have e1 : c2 = c' := e1
    have e2 : g2 = g' := e2
    subst e1
    subst e2
    obtain ⟨⟨b, k2, k4, e4, e5, e6⟩, hJ'⟩ := hR _ _ _ _ p9 q9
    cases e4
    obtain ⟨e7, e8⟩ := HT_eq (xs := ["java/lang/IndexOutOfBoundsException"]) (F := fun a => if (false : Bool) then (if a = 0 then 0 else 1) else a.toInt64) (by decide +kernel) e3 e6
    subst e7
    refine EW.istore dL_law_570 (by decide) ?_
    refine EW.loc (lv' := (6, .int b) :: (5, .int (nI k1)) :: lvL cy ax ad o i) ⟨rfl, rfl, rfl, rfl, rfl, rfl, rfl, trivial⟩ ?_
    refine EW.aload_n dL_law_572 rfl rfl ?_
    refine EW.callV (ci := 9) (bc := 50 * n) (bs := 400 * n) (mc' := 0) (ms' := 0) (LW.ref (Q := fun o s => o = .inl (some (.int (m2.1 0))) ∧ s = m2) (fun hp0 => M_thrown hl 1800 m2)) mfX9_thrown rfl l_L_62 mvX9_thrown (by omega) dL_law_573 rfl rfl (fun hp h => h.obM) rfl (Nat.le_of_ble_eq_true rfl) (fun v s1 q9 => ?_) (fun X s1 q9 => nomatch q9.1.1)
    obtain ⟨c3, m3, g3⟩ := s1
    obtain ⟨⟨e9, ea⟩, eb, ec⟩ := q9
    have ea : m3 = m2 := ea
    have eb : c3 = c2 := eb
    have ec : g3 = g2 := ec
    subst ea
    subst eb
    subst ec
    cases e9
    refine EW.iload dL_law_576 rfl ?_
    refine EW.icmp_eq 583 dL_law_578 (by decide) (fun _ => ?_) (fun h => absurd e5 h)
    refine EW.iload dL_law_583 rfl ?_
    refine EW.if_ne 600 dL_law_585 (by decide) (fun _ => ?_) (fun h0 => ?_)
    · refine EW.goto 646 dL_law_600 (by decide) ?_
      exact nx _ _ _ _ hJ' ⟨rfl, rfl, rfl, rfl, rfl, trivial⟩
    · have hk0 : k1 = 0 := (nI_eq0 (by omega)).mp h0
      have eg : g3 0 = b.toInt64 := e8 hk0
      refine EW.aload_n dL_law_588 rfl rfl ?_
      refine EW.ic 0 dL_law_589 ?_
      refine ELW.lald dL_law_590 ?_
      refine EW.iload dL_law_591 rfl ?_
      refine EW.i2l dL_law_593 rfl ?_
      refine EW.lcmp dL_law_594 ?_
      have ez : lg_cmp (g3 0) b.toInt64 = 0 := by rw [eg]; exact lg_self _
      refine EW.if_eq 600 dL_law_595 (by decide) (fun _ => ?_) (fun h => absurd ez h)
      refine EW.goto 646 dL_law_600 (by decide) ?_
      exact nx _ _ _ _ hJ' ⟨rfl, rfl, rfl, rfl, rfl, trivial⟩
  · obtain ⟨q9, -, -⟩ := q9
    obtain ⟨⟨b, k2, k4, e4, -⟩, -⟩ := hR _ _ _ _ p9 q9
    cases e4
set_option maxHeartbeats 2000000 in
theorem L_full (hl : l.stackTraces = false) (hJ : J c m) (n i : Nat) (hi : i + 2 < cy 1003) (hL : cy 1003 ≤ 192) (nx : NX cy ax ad o l D base n i) : EW (LW cy ax ad o) l D cy base mL_law 2000 (50 * (n + 1)) (400 * (n + 1)) 603 (lvL cy ax ad o i) [] (c, m, f) QL := by
  obtain ⟨P, Q', hC, hB, hS, hR⟩ := O_full2 (cy := cy) (ax := ax) (ad := ad) (D := D) (base := base) hl hJ
  obtain ⟨mc, ms, hmc, hms, hM⟩ := hC
  refine EW.aload_n dL_law_603 rfl rfl ?_
  refine EW.more (bc' := 50 * n + mc) (bs' := 400 * n + ms) (by omega) (by omega) ?_
  refine EW.callV (ci := 8) (mc' := mc) (ms' := ms) (LW.cls hM) mfX8_full rfl l_L_93 mvX8_full (by omega) dL_law_604 rfl rfl (fun hp h => h.obC) rfl (Nat.le_of_ble_eq_true rfl) (fun v s1 q9 => ?_) (fun X s1 q9 => ?_)
  · obtain ⟨c', m', g'⟩ := s1
    obtain ⟨p9, e9⟩ := q9
    cases e9
    obtain ⟨y, hy, ea⟩ := hS _ _ p9
    cases ea
    refine EW.f2d dL_law_607 hy.1 ?_
    refine EW.dstore dL_law_608 (by decide) ?_
    refine EW.loc (lv' := (5, .double (FP.f2d y)) :: lvL cy ax ad o i) ⟨rfl, rfl, rfl, rfl, rfl, rfl, trivial⟩ ?_
    refine EW.aload_n dL_law_610 rfl rfl ?_
    refine EW.callV (ci := 9) (bc := 50 * n) (bs := 400 * n) (mc' := 0) (ms' := 0) (LW.ref hB) mfX9_full rfl l_L_97 mvX9_full (by omega) dL_law_611 rfl rfl (fun hp h => h.obM) rfl (Nat.le_of_ble_eq_true rfl) (fun v s1 q9 => ?_) (fun X s1 q9 => ?_)
    · obtain ⟨c2, m2, g2⟩ := s1
      obtain ⟨q9, e1, e2⟩ := q9
      obtain ⟨⟨b, ea, eb⟩, hJ'⟩ := hR _ _ _ _ p9 q9
      cases ea
      cases eb
      have e1 : c2 = c' := e1
      subst e1
      refine EW.f2d dL_law_614 hy.1 ?_
      refine EW.dstore dL_law_615 (by decide) ?_
      refine EW.loc (lv' := (7, .double (FP.f2d y)) :: (5, .double (FP.f2d y)) :: lvL cy ax ad o i) ⟨rfl, rfl, rfl, rfl, rfl, rfl, rfl, trivial⟩ ?_
      refine EW.dload dL_law_617 rfl ?_
      refine EW.dload dL_law_619 rfl ?_
      refine EW.dcmp dL_law_621 ?_
      refine EW.if_eq 643 dL_law_622 (by decide) (fun _ => ?_) (fun h => absurd hy.2 h)
      refine EW.goto 646 dL_law_643 (by decide) ?_
      exact nx _ _ _ _ hJ' ⟨rfl, rfl, rfl, rfl, rfl, trivial⟩
    · obtain ⟨q9, -, -⟩ := q9
      obtain ⟨⟨b, ea, eb⟩, -⟩ := hR _ _ _ _ p9 q9
      cases eb
  · obtain ⟨p9, e9⟩ := q9
    obtain ⟨y, hy, ea⟩ := hS _ _ p9
    cases ea
set_option maxHeartbeats 4000000 in
theorem L_loop (hl : l.stackTraces = false) (hL : cy 1003 ≤ 192) : ∀ (n i : Nat) (c : CSt) (m : MSt) (f : Nat → Int64), J c m → i ≤ 200 → cy 1003 ≤ i + n → EW (LW cy ax ad o) l D cy base mL_law 2000 (50 * n) (400 * n) 23 (lvL cy ax ad o i) [] (c, m, f) QL := by
  intro n
  induction n with
  | zero =>
    intro i c m f hJ hi hn
    have hl3 : (nI (cy 1003) - nI 3).toInt = (cy 1003 : Int) - 3 := len3 ⟨cy 1003, Nat.lt_succ_of_le hL⟩
    have hti : (nI i).toInt = (i : Int) := nI_toInt (by omega)
    refine EW.iload dL_law_23 rfl ?_
    refine EW.aload_n dL_law_25 rfl rfl ?_
    refine EW.slen dL_law_26 ?_
    refine EW.ic 3 dL_law_27 ?_
    refine EW.isub dL_law_28 ?_
    refine EW.icmp_gt 652 dL_law_29 (by decide) (fun _ => ?_) (fun hc => ?_)
    · refine EW.ic 1 dL_law_652 ?_
      exact EW.zret (ty := .boolean) rfl (by decide +kernel) dL_law_653 rfl
    · rw [Int32.lt_iff_toInt_lt, hl3, hti] at hc
      exfalso
      have hn9 : @LE.le Nat instLENat (cy 1003) (i + 0) := hn
      omega
  | succ n ih =>
    intro i c m f hJ hi hn
    have hl3 : (nI (cy 1003) - nI 3).toInt = (cy 1003 : Int) - 3 := len3 ⟨cy 1003, Nat.lt_succ_of_le hL⟩
    have hti : (nI i).toInt = (i : Int) := nI_toInt (by omega)
    refine EW.iload dL_law_23 rfl ?_
    refine EW.aload_n dL_law_25 rfl rfl ?_
    refine EW.slen dL_law_26 ?_
    refine EW.ic 3 dL_law_27 ?_
    refine EW.isub dL_law_28 ?_
    refine EW.icmp_gt 652 dL_law_29 (by decide) (fun _ => ?_) (fun hc => ?_)
    · refine EW.ic 1 dL_law_652 ?_
      exact EW.zret (ty := .boolean) rfl (by decide +kernel) dL_law_653 rfl
    · rw [Int32.lt_iff_toInt_lt, hl3, hti] at hc
      have hL9 : @LE.le Nat instLENat (cy 1003) 192 := hL
      have hn9 : @LE.le Nat instLENat (cy 1003) (i + (n + 1)) := hn
      have hi2 : i + 2 < cy 1003 := by omega
      have hi3 : i + 3 ≤ 200 := by omega
      have hn3 : @LE.le Nat instLENat (cy 1003) (i + 3 + n) := by omega
      have nx : NX cy ax ad o l D base n i := fun c' m' g lv hJ' hlv => by
        refine EW.loc hlv ?_
        refine EW.iinc dL_law_646 rfl (inc3 i) (by decide) ?_
        refine EW.goto 23 dL_law_649 (by decide) ?_
        refine EW.loc (lv' := lvL cy ax ad o (i + 3)) ⟨rfl, rfl, rfl, rfl, rfl, trivial⟩ ?_
        exact ih (i + 3) c' m' g hJ' hi3 hn3
      refine EW.aload_n dL_law_32 rfl rfl ?_
      refine EW.iload dL_law_33 rfl ?_
      refine EW.sld i dL_law_35 (by omega) hL ?_
      refine EW.bp 15 dL_law_36 ?_
      refine EW.iand dL_law_38 ?_
      obtain ⟨t, ht, et⟩ := and15 (nI (cy (2000 + i)))
      rw [et]
      have hor : t = 0 ∨ t = 1 ∨ t = 2 ∨ t = 3 ∨ t = 4 ∨ t = 5 ∨ t = 6 ∨ t = 7 ∨ t = 8 ∨ t = 9 ∨ t = 10 ∨ t = 11 ∨ t = 12 ∨ t = 13 ∨ t = 14 ∨ t = 15 := by omega
      rcases hor with rfl | rfl | rfl | rfl | rfl | rfl | rfl | rfl | rfl | rfl | rfl | rfl | rfl | rfl | rfl | rfl
      · exact EW.tableIn (off := 61) 100 dL_law_39 (by decide +kernel) (by decide +kernel) (by decide +kernel) (by decide) (L_type hl hJ n i hi2 hL nx)
      · exact EW.tableIn (off := 88) 127 dL_law_39 (by decide +kernel) (by decide +kernel) (by decide +kernel) (by decide) (L_rule hl hJ n i hi2 hL nx)
      · exact EW.tableIn (off := 101) 140 dL_law_39 (by decide +kernel) (by decide +kernel) (by decide +kernel) (by decide) (L_drop hl hJ n i hi2 hL nx)
      · exact EW.tableIn (off := 164) 203 dL_law_39 (by decide +kernel) (by decide +kernel) (by decide +kernel) (by decide) (L_feed hl hJ n i hi2 hL nx)
      · exact EW.tableIn (off := 222) 261 dL_law_39 (by decide +kernel) (by decide +kernel) (by decide +kernel) (by decide) (L_clear hl hJ n i hi2 hL nx)
      · exact EW.tableIn (off := 235) 274 dL_law_39 (by decide +kernel) (by decide +kernel) (by decide +kernel) (by decide) (L_outcomes hl hJ n i hi2 hL nx)
      · exact EW.tableIn (off := 291) 330 dL_law_39 (by decide +kernel) (by decide +kernel) (by decide +kernel) (by decide) (L_check hl hJ n i hi2 hL nx)
      · exact EW.tableIn (off := 304) 343 dL_law_39 (by decide +kernel) (by decide +kernel) (by decide +kernel) (by decide) (L_match hl hJ n i hi2 hL nx)
      · exact EW.tableIn (off := 372) 411 dL_law_39 (by decide +kernel) (by decide +kernel) (by decide +kernel) (by decide) (L_memory hl hJ n i hi2 hL nx)
      · exact EW.tableIn (off := 440) 479 dL_law_39 (by decide +kernel) (by decide +kernel) (by decide +kernel) (by decide) (L_node hl hJ n i hi2 hL nx)
      · exact EW.tableIn (off := 508) 547 dL_law_39 (by decide +kernel) (by decide +kernel) (by decide +kernel) (by decide) (L_count hl hJ n i hi2 hL nx)
      · exact EW.tableIn (off := 564) 603 dL_law_39 (by decide +kernel) (by decide +kernel) (by decide +kernel) (by decide) (L_full hl hJ n i hi2 hL nx)
      · refine EW.more (bc' := 50 * n) (bs' := 400 * n) (by omega) (by omega) ?_
        exact EW.tableOut 646 dL_law_39 (Or.inr (by decide +kernel)) (by decide) (nx _ _ _ _ hJ ⟨rfl, rfl, rfl, rfl, rfl, trivial⟩)
      · refine EW.more (bc' := 50 * n) (bs' := 400 * n) (by omega) (by omega) ?_
        exact EW.tableOut 646 dL_law_39 (Or.inr (by decide +kernel)) (by decide) (nx _ _ _ _ hJ ⟨rfl, rfl, rfl, rfl, rfl, trivial⟩)
      · refine EW.more (bc' := 50 * n) (bs' := 400 * n) (by omega) (by omega) ?_
        exact EW.tableOut 646 dL_law_39 (Or.inr (by decide +kernel)) (by decide) (nx _ _ _ _ hJ ⟨rfl, rfl, rfl, rfl, rfl, trivial⟩)
      · refine EW.more (bc' := 50 * n) (bs' := 400 * n) (by omega) (by omega) ?_
        exact EW.tableOut 646 dL_law_39 (Or.inr (by decide +kernel)) (by decide) (nx _ _ _ _ hJ ⟨rfl, rfl, rfl, rfl, rfl, trivial⟩)
end LAWB
