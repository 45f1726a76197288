/-! the model's reader: a TEST, & and |, ! and ( -/
def Cm (E : Rs) (A : Nat) (ν : MM) (us : List Int32) (r : PRs) : Prop := ∃ ν', E = some (none, fx ν') ∧ (r.1 = true → Fr (PM A) QN ν ν' ∧ gI ν' 46 9 = gI ν 46 9 ∧ Md ν' A r.2.1 (us ++ r.2.2.map cvt)) ∧ (r.1 = false → Wr ν ν' A r.2.1)
theorem Cm.no {E : Rs} {A : Nat} {ν ν' : MM} {us ws : List Int32} {q : Nat} (h : Wr ν ν' A q) (e : E = some (none, fx ν')) : Cm E A ν us (false, q, ws) := ⟨ν', e, fun c => (by cases c), fun _ => h⟩
theorem Cm.yes {E : Rs} {A : Nat} {ν ν' : MM} {us ws : List Int32} {q : Nat} (f : Fr (PM A) QN ν ν') (h9 : gI ν' 46 9 = gI ν 46 9) (h : Md ν' A q (us ++ ws.map cvt)) (e : E = some (none, fx ν')) : Cm E A ν us (true, q, ws) := ⟨ν', e, fun _ => ⟨f, h9, h⟩, fun c => by cases c⟩
theorem Cm.st {E E' : Rs} {A : Nat} {ν μ : MM} {us : List Int32} {r : PRs} (f : Fr (PM A) QN ν μ) (h9 : gI μ 46 9 = gI ν 46 9) (e : E' = E) (h : Cm E A μ us r) : Cm E' A ν us r := by
  obtain ⟨ν', h1, h2, h3⟩ := h
  exact ⟨ν', e.trans h1, fun c => ⟨f.tr (h2 c).1, (h2 c).2.1.trans h9, (h2 c).2.2⟩, fun c => (h3 c).pre f h9⟩
theorem m_124w (d : Nat) {ν : MM} (h8 : gI ν 46 8 = 1) : ev d 124 0 [.ref 46] [] (fx ν) = some (none, fx ν) := by
  rw [e_124_0, h8, if_neg wr1, e_124_1]
theorem m_125w (d : Nat) {ν : MM} (h8 : gI ν 46 8 = 1) : ev (d + 1) 125 0 [.ref 46] [] (fx ν) = some (none, fx ν) := by
  rw [e_125_0, m_124w _ h8, bnd_0, app0, e_125_1, h8, if_neg wr1, e_125_7]
theorem m_126w (d : Nat) {ν : MM} (h8 : gI ν 46 8 = 1) : ev (d + 2) 126 0 [.ref 46] [] (fx ν) = some (none, fx ν) := by
  rw [e_126_0, m_125w _ h8, bnd_0, app0, e_126_1, h8, if_neg wr1, e_126_7]
def OnM (n s A : Nat) (ch : Nat → Nat) (a m e : Nat) (one : Nat → PRs) : Prop := (∀ p, p ≤ n → Gd n (chS s).length m p (one p)) ∧ ∀ (d : Nat) (ν : MM) (p : Nat) (us : List Int32), CxM ν n s A ch → Md ν A p us → gI ν 46 9 = Int32.ofNat a → p ≤ n → us.length ≤ p → Cm (ev (d + e) 124 0 [.ref 46] [] (fx ν)) A ν us (one p)
theorem mc6 (us ws xs : List Int32) : us ++ ws.map cvt ++ xs.map cvt ++ [-2] = us ++ (ws ++ xs ++ [6]).map cvt := by
  rw [List.map_append, List.map_append, List.append_assoc, List.append_assoc, List.append_assoc]
  rfl
theorem mc7 (us ws xs : List Int32) : us ++ ws.map cvt ++ xs.map cvt ++ [-3] = us ++ (ws ++ xs ++ [7]).map cvt := by
  rw [List.map_append, List.map_append, List.append_assoc, List.append_assoc, List.append_assoc]
  rfl
theorem m_125l (d : Nat) {n s A a m e : Nat} {ch : Nat → Nat} {one : Nat → PRs} (ho : OnM n s A ch a m e one) (p0 : Nat) (us : List Int32) (hl : us.length ≤ p0) : ∀ (f p : Nat) (ws : List Int32) (ν : MM), n ≤ p + f → CxM ν n s A ch → Md ν A p (us ++ ws.map cvt) → gI ν 46 9 = Int32.ofNat a → Gd n (chS s).length (m + 1) p0 (true, p, ws) → Cm (ev (d + e + 1) 125 1 [.ref 46] [] (fx ν)) A ν us (pAnd one ch f p ws) := by
  intro f
  induction f with
  | zero =>
    intro p ws ν hf g h h9 gd
    have hpn : p ≤ n := gd.1.2
    have hch := g.ch p
    have q38 : (hv (ch p) = 38) = (ch p = 38) := hv_eq (k := 38) hch (by decide)
    have c128 := (g.1.2.1.2 p).2 (by omega)
    refine Cm.yes Fr.rf rfl h ?_
    rw [e_125_1, h.2.1, if_pos rfl, e_125_2, m_118 _ g h.1 hpn, bnd_1, app1, e_125_3, if_neg (by rw [q38]; omega), e_125_7]
  | succ f ih =>
    intro p ws ν hf g h h9 gd
    have hpn : p ≤ n := gd.1.2
    have hn := g.1.2.1.1
    have a0 : p0 ≤ p := gd.1.1
    have a1 : p0 + ws.length + 2 ≤ p := (gd.2 rfl).1
    have hch := g.ch p
    have q38 : (hv (ch p) = 38) = (ch p = 38) := hv_eq (k := 38) hch (by decide)
    have hL : (us ++ ws.map cvt).length = us.length + ws.length := by rw [List.length_append, List.length_map]
    show Cm _ A ν us (if ch p = 38 then (match one (p + 1) with
      | (true, q, xs) => pAnd one ch f q (ws ++ xs ++ [6])
      | (false, q, _) => (false, q, [])) else (true, p, ws))
    by_cases c : ch p = 38
    · have hp : p < n := g.1.2.1.lt c (by decide)
      obtain ⟨f1, r1, i1⟩ := h.at (p + 1)
      have g1 := g.fr f1
      have hw := ho.2 d _ (p + 1) (us ++ ws.map cvt) g1 r1 (i1.trans h9) hp (by omega)
      have gw := ho.1 (p + 1) hp
      have e0 : ev (d + e + 1) 125 1 [.ref 46] [] (fx ν) = bnd 0 (ev (d + e) 124 0 [.ref 46] [] (fx (sI ν 46 6 (Int32.ofNat (p + 1))))) fun rs μ1 => ev (d + e + 1) 125 5 [.ref 46] (rs ++ []) μ1 := by
        rw [e_125_1, h.2.1, if_pos rfl, e_125_2, m_118 _ g h.1 hpn, bnd_1, app1, e_125_3, if_pos (by rw [q38]; exact c), e_125_4, h.1, O_p1]
      rw [if_pos c]
      revert hw gw
      obtain ⟨b, q, xs⟩ := one (p + 1)
      rintro ⟨ν2, w1, w2, w3⟩ gw
      cases b with
      | false =>
        have w := w3 rfl
        refine Cm.no (w.pre f1 i1) ?_
        rw [e0, w1, bnd_0, app0, e_125_5, m_123w _ _ w.2.2.2, bnd_0, app0, e_125_6, e_125_1, w.2.2.2, if_neg wr1, e_125_7]
      | true =>
        obtain ⟨f2, i2, r2⟩ := w2 rfl
        have r2 : Md ν2 A q (us ++ ws.map cvt ++ xs.map cvt) := r2
        have b4 : p + 1 + xs.length + 2 ≤ q := (gw.2 rfl).1
        have b5 : q ≤ n := gw.1.2
        have g2 := g1.fr f2
        obtain ⟨ν3, e3, f3, i3, r3⟩ := m_123 (d + e) g2.2.2.2.1 g2.2.2.2.2 r2 (by rw [List.length_append, hL, List.length_map]; omega) (-2)
        rw [mc6] at r3
        refine Cm.st ((f1.tr f2).tr f3) (i3.trans (i2.trans i1)) ?_ (ih q (ws ++ xs ++ [6]) ν3 (by omega) (g2.fr f3) r3 (i3.trans (i2.trans (i1.trans h9))) (Gd.and gd gw))
        rw [e0, w1, bnd_0, app0, e_125_5, e3, bnd_0, app0, e_125_6]
    · rw [if_neg c]
      refine Cm.yes Fr.rf rfl h ?_
      rw [e_125_1, h.2.1, if_pos rfl, e_125_2, m_118 _ g h.1 hpn, bnd_1, app1, e_125_3, if_neg (by rw [q38]; exact c), e_125_7]
theorem m_125 (d : Nat) {n s A a m e p : Nat} {ch : Nat → Nat} {one : Nat → PRs} (ho : OnM n s A ch a m e one) {us : List Int32} {ν : MM} (g : CxM ν n s A ch) (h : Md ν A p us) (h9 : gI ν 46 9 = Int32.ofNat a) (hpn : p ≤ n) (hl : us.length ≤ p) : Cm (ev (d + e + 1) 125 0 [.ref 46] [] (fx ν)) A ν us (pEv one ch p) := by
  have hn := g.1.2.1.1
  have hw := ho.2 d ν p us g h h9 hpn hl
  have gw := ho.1 p hpn
  unfold pEv
  revert hw gw
  obtain ⟨b, q, xs⟩ := one p
  rintro ⟨ν2, w1, w2, w3⟩ gw
  cases b with
  | false =>
    have w := w3 rfl
    refine Cm.no w ?_
    rw [e_125_0, w1, bnd_0, app0, e_125_1, w.2.2.2, if_neg wr1, e_125_7]
  | true =>
    obtain ⟨f2, i2, r2⟩ := w2 rfl
    refine Cm.st f2 i2 ?_ (m_125l d ho p us hl 100 q xs ν2 (by omega) (g.fr f2) r2 (i2.trans h9) (gw.mono (Nat.le_succ m)))
    rw [e_125_0, w1, bnd_0, app0]
theorem m_126l (d : Nat) {n s A a m e : Nat} {ch : Nat → Nat} {one : Nat → PRs} (ho : OnM n s A ch a m e one) (p0 : Nat) (us : List Int32) (hl : us.length ≤ p0) : ∀ (f p : Nat) (ws : List Int32) (ν : MM), n ≤ p + f → CxM ν n s A ch → Md ν A p (us ++ ws.map cvt) → gI ν 46 9 = Int32.ofNat a → Gd n (chS s).length (m + 2) p0 (true, p, ws) → Cm (ev (d + e + 2) 126 1 [.ref 46] [] (fx ν)) A ν us (pOr one ch f p ws) := by
  intro f
  induction f with
  | zero =>
    intro p ws ν hf g h h9 gd
    have hpn : p ≤ n := gd.1.2
    have hch := g.ch p
    have q124 : (hv (ch p) = 124) = (ch p = 124) := hv_eq (k := 124) hch (by decide)
    have c128 := (g.1.2.1.2 p).2 (by omega)
    show Cm _ A ν us (if ch p = 124 then (true, p + 1, ws) else (true, p, ws))
    rw [if_neg (by omega)]
    refine Cm.yes Fr.rf rfl h ?_
    rw [e_126_1, h.2.1, if_pos rfl, e_126_2, m_118 _ g h.1 hpn, bnd_1, app1, e_126_3, if_neg (by rw [q124]; omega), e_126_7]
  | succ f ih =>
    intro p ws ν hf g h h9 gd
    have hpn : p ≤ n := gd.1.2
    have hn := g.1.2.1.1
    have a0 : p0 ≤ p := gd.1.1
    have a1 : p0 + ws.length + 2 ≤ p := (gd.2 rfl).1
    have hch := g.ch p
    have q124 : (hv (ch p) = 124) = (ch p = 124) := hv_eq (k := 124) hch (by decide)
    have hL : (us ++ ws.map cvt).length = us.length + ws.length := by rw [List.length_append, List.length_map]
    show Cm _ A ν us (if ch p = 124 then (match pEv one ch (p + 1) with
      | (true, q, xs) => pOr one ch f q (ws ++ xs ++ [7])
      | (false, q, _) => (false, q, [])) else (true, p, ws))
    by_cases c : ch p = 124
    · have hp : p < n := g.1.2.1.lt c (by decide)
      obtain ⟨f1, r1, i1⟩ := h.at (p + 1)
      have g1 := g.fr f1
      have hw := m_125 d ho g1 r1 (i1.trans h9) hp (by omega)
      have gw := pEv_gd g.1.2.1 ho.1 (p + 1) hp
      have e0 : ev (d + e + 2) 126 1 [.ref 46] [] (fx ν) = bnd 0 (ev (d + e + 1) 125 0 [.ref 46] [] (fx (sI ν 46 6 (Int32.ofNat (p + 1))))) fun rs μ1 => ev (d + e + 2) 126 5 [.ref 46] (rs ++ []) μ1 := by
        rw [e_126_1, h.2.1, if_pos rfl, e_126_2, m_118 _ g h.1 hpn, bnd_1, app1, e_126_3, if_pos (by rw [q124]; exact c), e_126_4, h.1, O_p1]
      rw [if_pos c]
      revert hw gw
      obtain ⟨b, q, xs⟩ := pEv one ch (p + 1)
      rintro ⟨ν2, w1, w2, w3⟩ gw
      cases b with
      | false =>
        have w := w3 rfl
        refine Cm.no (w.pre f1 i1) ?_
        rw [e0, w1, bnd_0, app0, e_126_5, m_123w _ _ w.2.2.2, bnd_0, app0, e_126_6, e_126_1, w.2.2.2, if_neg wr1, e_126_7]
      | true =>
        obtain ⟨f2, i2, r2⟩ := w2 rfl
        have r2 : Md ν2 A q (us ++ ws.map cvt ++ xs.map cvt) := r2
        have b4 : p + 1 + xs.length + 2 ≤ q := (gw.2 rfl).1
        have b5 : q ≤ n := gw.1.2
        have g2 := g1.fr f2
        obtain ⟨ν3, e3, f3, i3, r3⟩ := m_123 (d + e + 1) g2.2.2.2.1 g2.2.2.2.2 r2 (by rw [List.length_append, hL, List.length_map]; omega) (-3)
        rw [mc7] at r3
        refine Cm.st ((f1.tr f2).tr f3) (i3.trans (i2.trans i1)) ?_ (ih q (ws ++ xs ++ [7]) ν3 (by omega) (g2.fr f3) r3 (i3.trans (i2.trans (i1.trans h9))) (Gd.or gd gw))
        rw [e0, w1, bnd_0, app0, e_126_5, e3, bnd_0, app0, e_126_6]
    · rw [if_neg c]
      refine Cm.yes Fr.rf rfl h ?_
      rw [e_126_1, h.2.1, if_pos rfl, e_126_2, m_118 _ g h.1 hpn, bnd_1, app1, e_126_3, if_neg (by rw [q124]; exact c), e_126_7]
theorem m_126 (d : Nat) {n s A a m e p : Nat} {ch : Nat → Nat} {one : Nat → PRs} (ho : OnM n s A ch a m e one) {us : List Int32} {ν : MM} (g : CxM ν n s A ch) (h : Md ν A p us) (h9 : gI ν 46 9 = Int32.ofNat a) (hpn : p ≤ n) (hl : us.length ≤ p) : Cm (ev (d + e + 2) 126 0 [.ref 46] [] (fx ν)) A ν us (pAny one ch p) := by
  have hn := g.1.2.1.1
  have hw := m_125 d ho g h h9 hpn hl
  have gw := pEv_gd g.1.2.1 ho.1 p hpn
  unfold pAny
  revert hw gw
  obtain ⟨b, q, xs⟩ := pEv one ch p
  rintro ⟨ν2, w1, w2, w3⟩ gw
  cases b with
  | false =>
    have w := w3 rfl
    refine Cm.no w ?_
    rw [e_126_0, w1, bnd_0, app0, e_126_1, w.2.2.2, if_neg wr1, e_126_7]
  | true =>
    obtain ⟨f2, i2, r2⟩ := w2 rfl
    have b4 : p + xs.length + 2 ≤ q := (gw.2 rfl).1
    refine Cm.st f2 i2 ?_ (m_126l d ho p us hl 99 q xs ν2 (by omega) (g.fr f2) r2 (i2.trans h9) (gw.mono (Nat.le_succ _)))
    rw [e_126_0, w1, bnd_0, app0]
/-- the end of a TEST, when all is wrong -/
theorem m_124x (d : Nat) {ν : MM} {A q : Nat} (v2 v3 : Int32) (h6 : gI ν 46 6 = Int32.ofNat q) : ∃ ν', ev (d + 1) 124 29 [.ref 46, .int v2, .int v3] [.int 1, .ref 46] (fx ν) = some (none, fx ν') ∧ Wr ν ν' A q := by
  have w := wr8 (A := A) h6
  obtain ⟨ν2, e2, w2⟩ := m_121w (A := A) d w.2.2.1 w.2.2.2
  refine ⟨ν2, ?_, w.tr w2⟩
  rw [e_124_29, b01_1, gd_t, e2, bnd_1, app1, e_124_30, m_123w _ _ w2.2.2.2, bnd_0, app0, e_124_31]
theorem ch9 : chS 9 = [60, 61, 62] := by decide
theorem m_124t (d : Nat) {ν : MM} {n s A p : Nat} {ch : Nat → Nat} {us : List Int32} (g : CxM ν n s A ch) (h : Md ν A p us) (hpn : p ≤ n) (hl : us.length ≤ p) : Cm (ev (d + 5) 124 18 [.ref 46] [] (fx ν)) A ν us (pTst (chS s) ch p) := by
  obtain ⟨hs1, hs2, hs3⟩ := g.2.2.1
  have hnl := chS_len s hs2
  have hn := g.1.2.1.1
  have qn : ∀ a, a < 5 → ¬ Int32.ofNat a = -1 := by decide
  obtain ⟨x1, x2⟩ := m_122 d hs2 g h hpn (strN s) 0 (by omega)
  rw [List.drop_zero] at x1 x2
  have e0 : ev (d + 5) 124 18 [.ref 46] [] (fx ν) = bnd 1 (ev (d + 4) 122 1 [.ref 46, .ref s, .int (Int32.ofNat 0)] [] (fx ν)) fun rs μ1 => ev (d + 5) 124 19 [.ref 46] (rs ++ []) μ1 := by
    rw [e_124_18 _ _ s hs1, e_122_0]
    rfl
  unfold pTst
  cases i1 : ixN (chS s) (ch p) with
  | none =>
    have w := wr8 (A := A) h.1
    obtain ⟨ν2, e2, w2⟩ := m_124x (d + 4) (-1) 0 w.2.2.1
    refine Cm.no (w.tr w2) ?_
    rw [e0, x1 i1, bnd_1, app1, e_124_19, if_pos rfl, e_124_20, e_124_22, b01_1, gd_t, w.2.2.2, if_neg wr1, e_124_23, e_124_25, w.2.2.2, if_neg wr1, e_124_27, e2]
  | some a =>
    have ha := ixN_lt i1
    have hp : p < n := g.1.2.1.lt rfl (ch_lo s hs2 _ (ixN_mem i1))
    obtain ⟨f1, r1, j1⟩ := h.at (p + 1)
    obtain ⟨f2, r2, j2⟩ := r1.w8
    have g2 := (g.fr f1).fr f2
    have e1 : ev (d + 5) 124 18 [.ref 46] [] (fx ν) = bnd 1 (ev (d + 4) 122 1 [.ref 46, .ref 9, .int (Int32.ofNat 0)] [] (fx (sI (sI ν 46 6 (Int32.ofNat (p + 1))) 46 8 0))) fun rs μ1 => ev (d + 5) 124 25 [.ref 46, .int (Int32.ofNat a)] (rs ++ []) μ1 := by
      rw [e0, x2 a i1, Nat.zero_add, bnd_1, app1, e_124_19, if_neg (qn a (by omega)), e_124_21, e_124_22, b01_0, gd_t, r2.2.1, if_pos rfl, e_124_24, e_122_0]
      rfl
    obtain ⟨y1, y2⟩ := m_122 d (i := 9) (by decide) g2 r2 hp (strN 9) 0 (by omega)
    rw [List.drop_zero, ch9] at y1 y2
    show Cm _ A ν us (match ixN [60, 61, 62] (ch (p + 1)) with
      | none => (false, p + 1, [])
      | some h => match pNum ch (p + 2) with
        | none => (false, p + 2, [])
        | some (v, q) => (true, q, [Int32.ofNat (a + 8 * h + 32 * v)]))
    cases i2 : ixN [60, 61, 62] (ch (p + 1)) with
    | none =>
      obtain ⟨ν2, e2, w2⟩ := m_124x (A := A) (d + 4) (Int32.ofNat a) (-1) r2.1
      refine Cm.no (w2.pre (f1.tr f2) (j2.trans j1)) ?_
      rw [e1, y1 i2, bnd_1, app1, e_124_25, r2.2.1, if_pos rfl, e_124_26, if_pos rfl, e_124_27, e2]
    | some b =>
      have hb : b < 3 := ixN_lt i2
      have hp1 : p + 1 < n := by
        refine g.1.2.1.lt rfl ?_
        have := ixN_mem i2
        simp at this
        omega
      obtain ⟨f3, r3, j3⟩ := r2.at (p + 2)
      obtain ⟨f4, r4, j4⟩ := r3.w8
      have g4 := (g2.fr f3).fr f4
      obtain ⟨n1, n2⟩ := m_121 (d + 3) g4 r4 hp1
      have f14 := ((f1.tr f2).tr f3).tr f4
      have j14 := j4.trans (j3.trans (j2.trans j1))
      have e2 : ev (d + 5) 124 18 [.ref 46] [] (fx ν) = bnd 1 (ev (d + 4) 121 0 [.ref 46] [] (fx (sI (sI (sI (sI ν 46 6 (Int32.ofNat (p + 1))) 46 8 0) 46 6 (Int32.ofNat (p + 2))) 46 8 0))) fun rs μ1 => ev (d + 5) 124 30 [.ref 46, .int (Int32.ofNat a), .int (Int32.ofNat b)] (rs ++ []) μ1 := by
        rw [e1, y2 b i2, Nat.zero_add, bnd_1, app1, e_124_25, r3.2.1, if_pos rfl, e_124_26, if_neg (qn b (by omega)), e_124_28, e_124_29, b01_0, gd_t]
      show Cm _ A ν us (match pNum ch (p + 2) with
        | none => (false, p + 2, [])
        | some (v, q) => (true, q, [Int32.ofNat (a + 8 * b + 32 * v)]))
      cases i3 : pNum ch (p + 2) with
      | none =>
        obtain ⟨ν5, e5, w5⟩ := n1 i3
        refine Cm.no (w5.pre f14 j14) ?_
        rw [e2, e5, bnd_1, app1, e_124_30, m_123w _ _ w5.2.2.2, bnd_0, app0, e_124_31]
      | some vq =>
        obtain ⟨v, q⟩ := vq
        obtain ⟨v1, v2, v3⟩ := pNum_ok g.1.2.1 i3
        obtain ⟨ν5, e5, f5, j5, r5⟩ := n2 v q i3
        have g5 := g4.fr f5
        have tm : ∀ a, a < 5 → ∀ b, b < 3 → ∀ v, v < 100 → (Int32.ofNat a + (8 : Int32) * Int32.ofNat b) + (32 : Int32) * Int32.ofNat v = Int32.ofNat (a + 8 * b + 32 * v) := by decide +kernel
        obtain ⟨ν6, e6, f6, j6, r6⟩ := m_123 (d + 4) g5.2.2.2.1 g5.2.2.2.2 r5 (by omega) (Int32.ofNat (a + 8 * b + 32 * v))
        have ck : cvt (Int32.ofNat (a + 8 * b + 32 * v)) = Int32.ofNat (a + 8 * b + 32 * v) := okT_cvt ⟨a, b, v, by omega, hb, v1, rfl⟩
        refine Cm.yes ((f14.tr f5).tr f6) (j6.trans (j5.trans j14)) ?_ ?_
        · show Md ν6 A q (us ++ [cvt (Int32.ofNat (a + 8 * b + 32 * v))])
          rw [ck]
          exact r6
        · rw [e2, e5, bnd_1, app1, e_124_30, tm a (by omega) b hb v v1, e6, bnd_0, app0, e_124_31]
