/-! the model's reader: F at every depth -/
theorem mc5 (us xs : List Int32) : us ++ xs.map cvt ++ [-1] = us ++ (xs ++ [5]).map cvt := by
  rw [List.map_append, List.append_assoc]
  rfl
theorem Md.w9 {ν : MM} {A p : Nat} {us : List Int32} (v : Int32) (h : Md ν A p us) : Fr (PM A) QN ν (sI ν 46 9 v) ∧ Md (sI ν 46 9 v) A p us ∧ gI (sI ν 46 9 v) 46 9 = v := by
  obtain ⟨h1, h2, h3, h4, h5⟩ := h
  exact ⟨Fr.wI _ (PM_t (by omega)), ⟨by rw [gI_sI, if_neg (by omega)]; exact h1, by rw [gI_sI, if_neg (by omega)]; exact h2, by rw [gI_sI, if_neg (by omega)]; exact h3, h4, fun j hj => by rw [gI_sI, if_neg (by omega)]; exact h5 j hj⟩, by rw [gI_sI, if_pos ⟨rfl, rfl⟩]⟩
theorem m_124h (d : Nat) {ν : MM} {n s A p : Nat} {ch : Nat → Nat} {us : List Int32} (g : CxM ν n s A ch) (h : Md ν A p us) (hpn : p ≤ n) : ev (d + 1) 124 0 [.ref 46] [] (fx ν) = if ch p = 33 ∨ ch p = 40 then ev (d + 1) 124 5 [.ref 46, .int (hv (ch p))] [] (fx ν) else ev (d + 1) 124 18 [.ref 46] [] (fx ν) := by
  have hch := g.ch p
  have q33 : (hv (ch p) = 33) = (ch p = 33) := hv_eq (k := 33) hch (by decide)
  have q40 : (hv (ch p) = 40) = (ch p = 40) := hv_eq (k := 40) hch (by decide)
  rw [e_124_0, h.2.1, if_pos rfl, e_124_2, m_118 _ g h.1 hpn, bnd_1, app1, e_124_3]
  by_cases c1 : ch p = 33
  · rw [if_pos (by rw [q33]; exact c1), if_pos (Or.inl c1)]
  · rw [if_neg (by rw [q33]; exact c1), e_124_4]
    by_cases c2 : ch p = 40
    · rw [if_pos (by rw [q40]; exact c2), if_pos (Or.inr c2)]
    · rw [if_neg (by rw [q40]; exact c2), if_neg (by rintro (h | h) <;> contradiction)]
/-- F closes what it opened -/
theorem m_124z (d : Nat) {ν μ : MM} {A a q : Nat} (h9 : gI ν 46 9 = Int32.ofNat a) (f : Fr (PM A) QN ν μ) (m9 : gI μ 46 9 = Int32.ofNat (a + 1)) : ev d 124 17 [.ref 46] [] (fx μ) = some (none, fx (sI μ 46 9 (Int32.ofNat a))) ∧ (gI μ 46 6 = Int32.ofNat q → gI μ 46 8 = 1 → Wr ν (sI μ 46 9 (Int32.ofNat a)) A q) := by
  refine ⟨by rw [e_124_17, m9, O_sub1], fun h6 h8 => ⟨f.tr (Fr.wI _ (PM_t (by omega))), ?_, ?_, ?_⟩⟩
  · rw [gI_sI, if_pos ⟨rfl, rfl⟩, h9]
  · rw [gI_sI, if_neg (by omega)]; exact h6
  · rw [gI_sI, if_neg (by omega)]; exact h8
theorem m_124 {n s A : Nat} {ch : Nat → Nat} (hx : okTx ch n) (hs : s < 13) : ∀ (o a : Nat), a + o = 5 → OnM n s A ch a (2 * o) (6 + 3 * o) (pOne (chS s) ch o) := by
  have hB := chS_len s hs
  have hn := ch_lo s hs
  intro o
  induction o with
  | zero =>
    intro a ha
    have ha' : a = 5 := by omega
    subst ha'
    refine ⟨fun p hp => pOne_gd hx hn (by omega) 0 p hp, fun d ν p us g h h9 hpn hl => ?_⟩
    have hch := g.ch p
    have q33 : (hv (ch p) = 33) = (ch p = 33) := hv_eq (k := 33) hch (by decide)
    show Cm (ev (d + 5 + 1) 124 0 [.ref 46] [] (fx ν)) A ν us (if ch p = 33 ∨ ch p = 40 then (false, p, []) else pTst (chS s) ch p)
    rw [m_124h (d + 5) g h hpn]
    by_cases c : ch p = 33 ∨ ch p = 40
    · rw [if_pos c, if_pos c]
      obtain ⟨μ, hμ⟩ : ∃ μ, μ = sI (sI (sI ν 46 8 1) 46 9 (Int32.ofNat 6)) 46 6 (Int32.ofNat p) := ⟨_, rfl⟩
      have fμ : Fr (PM A) QN ν μ := by
        rw [hμ]
        exact ((Fr.wI _ (PM_t (by omega))).tr (Fr.wI _ (PM_t (by omega)))).tr (Fr.wI _ (PM_t (by omega)))
      have m6 : gI μ 46 6 = Int32.ofNat p := by rw [hμ, gI_sI, if_pos ⟨rfl, rfl⟩]
      have m8 : gI μ 46 8 = 1 := by rw [hμ, gI_sI, if_neg (by omega), gI_sI, if_neg (by omega), gI_sI, if_pos ⟨rfl, rfl⟩]
      have m9 : gI μ 46 9 = Int32.ofNat 6 := by rw [hμ, gI_sI, if_neg (by omega), gI_sI, if_pos ⟨rfl, rfl⟩]
      have x9 : gI (sI ν 46 8 1) 46 9 + 1 = Int32.ofNat 6 := by rw [gI_sI, if_neg (by omega), h9]; rfl
      have x8 : gI (sI (sI ν 46 8 1) 46 9 (Int32.ofNat 6)) 46 8 = 1 := by rw [gI_sI, if_neg (by omega), gI_sI, if_pos ⟨rfl, rfl⟩]
      have x6 : gI (sI (sI ν 46 8 1) 46 9 (Int32.ofNat 6)) 46 6 + 0 = Int32.ofNat p := by rw [gI_sI, if_neg (by omega), gI_sI, if_neg (by omega), h.1, Int32.add_zero]
      have e0 : ev (d + 5 + 1) 124 5 [.ref 46, .int (hv (ch p))] [] (fx ν) = if hv (ch p) = 33 then ev (d + 5 + 1) 124 12 [.ref 46] [] (fx μ) else ev (d + 5 + 1) 124 15 [.ref 46] [] (fx μ) := by
        rw [e_124_5, h9, if_pos (show Int32.ofNat 5 = 5 from rfl), e_124_6, e_124_8, b01_1, gd_t, x9, x8, if_neg wr1, e_124_9, e_124_11, x6, ← hμ]
      by_cases c33 : ch p = 33
      · obtain ⟨z1, z2⟩ := m_124z (q := p) (d + 5 + 1) h9 fμ m9
        refine Cm.no (z2 m6 m8) ?_
        rw [e0, if_pos (by rw [q33]; exact c33), e_124_12, m_124w _ m8, bnd_0, app0, e_124_13, m_123w _ _ m8, bnd_0, app0, e_124_14, z1]
      · obtain ⟨ν3, e3, w3⟩ := m_119w (A := A) (d + 5) 41 m6 m8
        obtain ⟨z1, z2⟩ := m_124z (q := p) (d + 5 + 1) h9 (fμ.tr w3.1) (w3.2.1.trans m9)
        refine Cm.no (z2 w3.2.2.1 w3.2.2.2) ?_
        rw [e0, if_neg (by rw [q33]; exact c33), e_124_15, m_126w _ m8, bnd_0, app0, e_124_16, e3, bnd_0, app0, z1]
    · rw [if_neg c, if_neg c]
      exact m_124t (d + 1) g h hpn hl
  | succ o ih =>
    intro a ha
    have ih' := ih (a + 1) (by omega)
    refine ⟨fun p hp => pOne_gd hx hn (by omega) (o + 1) p hp, fun d ν p us g h h9 hpn hl => ?_⟩
    have hch := g.ch p
    have q33 : (hv (ch p) = 33) = (ch p = 33) := hv_eq (k := 33) hch (by decide)
    have ed : d + (6 + 3 * (o + 1)) = d + (6 + 3 * o) + 2 + 1 := by omega
    have ea : ¬ Int32.ofNat a = 5 := by
      show ¬ Int32.ofNat a = Int32.ofNat 5
      rw [O_eq (by omega) (by omega)]; omega
    rw [ed, m_124h (d + (6 + 3 * o) + 2) g h hpn]
    show Cm _ A ν us (if ch p = 33 then (match pOne (chS s) ch o (p + 1) with
        | (true, q, us) => (true, q, us ++ [5])
        | (false, q, _) => (false, q, []))
      else if ch p = 40 then (match pAny (pOne (chS s) ch o) ch (p + 1) with
        | (true, q, us) => if ch q = 41 then (true, q + 1, us) else (false, q, [])
        | (false, q, _) => (false, q, []))
      else pTst (chS s) ch p)
    obtain ⟨f1, r1, j1⟩ := h.w8
    obtain ⟨f2, r2, j2⟩ := r1.w9 (Int32.ofNat (a + 1))
    obtain ⟨f3, r3, j3⟩ := r2.at (p + 1)
    obtain ⟨μ, hμ⟩ : ∃ μ, μ = sI (sI (sI ν 46 8 0) 46 9 (Int32.ofNat (a + 1))) 46 6 (Int32.ofNat (p + 1)) := ⟨_, rfl⟩
    rw [← hμ] at f3 r3 j3
    have fμ := (f1.tr f2).tr f3
    have m9 := j3.trans j2
    have gμ := g.fr fμ
    have x9 : gI (sI ν 46 8 0) 46 9 + 1 = Int32.ofNat (a + 1) := by rw [j1, h9, O_p1]
    have e0 : ev (d + (6 + 3 * o) + 2 + 1) 124 5 [.ref 46, .int (hv (ch p))] [] (fx ν) = if hv (ch p) = 33 then ev (d + (6 + 3 * o) + 2 + 1) 124 12 [.ref 46] [] (fx μ) else ev (d + (6 + 3 * o) + 2 + 1) 124 15 [.ref 46] [] (fx μ) := by
      rw [e_124_5, h9, if_neg ea, e_124_7, e_124_8, b01_0, gd_t, x9, r2.2.1, if_pos rfl, e_124_10, e_124_11, r2.1, O_p1, ← hμ]
    by_cases c33 : ch p = 33
    · have hp : p < n := hx.lt c33 (by decide)
      have hw := ih'.2 (d + 2) μ (p + 1) us gμ r3 m9 hp (by omega)
      have gw := ih'.1 (p + 1) hp
      rw [show d + 2 + (6 + 3 * o) = d + (6 + 3 * o) + 2 by omega] at hw
      rw [if_pos (Or.inl c33), if_pos c33, e0, if_pos (by rw [q33]; exact c33), e_124_12]
      revert hw gw
      obtain ⟨b, q, xs⟩ := pOne (chS s) ch o (p + 1)
      rintro ⟨ν2, w1, w2, w3⟩ gw
      cases b with
      | false =>
        have w := w3 rfl
        obtain ⟨z1, z2⟩ := m_124z (q := q) (d + (6 + 3 * o) + 2 + 1) h9 (fμ.tr w.1) (w.2.1.trans m9)
        refine Cm.no (z2 w.2.2.1 w.2.2.2) ?_
        rw [w1, bnd_0, app0, e_124_13, m_123w _ _ w.2.2.2, bnd_0, app0, e_124_14, z1]
      | true =>
        obtain ⟨f4, i4, r4⟩ := w2 rfl
        have r4 : Md ν2 A q (us ++ xs.map cvt) := r4
        have b4 : p + 1 + xs.length + 2 ≤ q := (gw.2 rfl).1
        have b5 : q ≤ n := gw.1.2
        have hn100 := hx.1
        have g4 := gμ.fr f4
        obtain ⟨ν5, e5, f5, i5, r5⟩ := m_123 (d + (6 + 3 * o) + 2) g4.2.2.2.1 g4.2.2.2.2 r4 (by rw [List.length_append, List.length_map]; omega) (-1)
        rw [mc5] at r5
        obtain ⟨z1, z2⟩ := m_124z (q := q) (d + (6 + 3 * o) + 2 + 1) h9 ((fμ.tr f4).tr f5) (i5.trans (i4.trans m9))
        obtain ⟨f6, r6, i6⟩ := r5.w9 (Int32.ofNat a)
        refine Cm.yes (((fμ.tr f4).tr f5).tr f6) (i6.trans h9.symm) r6 ?_
        rw [w1, bnd_0, app0, e_124_13, e5, bnd_0, app0, e_124_14, z1]
    · rw [if_neg c33]
      by_cases c40 : ch p = 40
      · have hp : p < n := hx.lt c40 (by decide)
        have hw := m_126 d ih' gμ r3 m9 hp (by omega)
        have gw := pAny_gd hx ih'.1 (p + 1) hp
        rw [if_pos (Or.inr c40), if_pos c40, e0, if_neg (by rw [q33]; exact c33), e_124_15]
        revert hw gw
        obtain ⟨b, q, xs⟩ := pAny (pOne (chS s) ch o) ch (p + 1)
        rintro ⟨ν2, w1, w2, w3⟩ gw
        cases b with
        | false =>
          have w := w3 rfl
          obtain ⟨ν5, e5, w5⟩ := m_119w (A := A) (d + (6 + 3 * o) + 2) 41 w.2.2.1 w.2.2.2
          obtain ⟨z1, z2⟩ := m_124z (q := q) (d + (6 + 3 * o) + 2 + 1) h9 ((fμ.tr w.1).tr w5.1) (w5.2.1.trans (w.2.1.trans m9))
          refine Cm.no (z2 w5.2.2.1 w5.2.2.2) ?_
          rw [w1, bnd_0, app0, e_124_16, e5, bnd_0, app0, z1]
        | true =>
          obtain ⟨f4, i4, r4⟩ := w2 rfl
          have r4 : Md ν2 A q (us ++ xs.map cvt) := r4
          have b5 : q ≤ n := gw.1.2
          have g4 := gμ.fr f4
          obtain ⟨ν5, e5, y1, y2⟩ := m_119 (d + (6 + 3 * o) + 1) (c := 41) g4 r4 b5 (by decide)
          have e5 : ev (d + (6 + 3 * o) + 2) 119 0 [.ref 46, .int 41] [] (fx ν2) = some (none, fx ν5) := e5
          show Cm _ A ν us (if ch q = 41 then (true, q + 1, xs) else (false, q, []))
          by_cases c41 : ch q = 41
          · obtain ⟨f5, i5, r5⟩ := y1 c41
            obtain ⟨z1, z2⟩ := m_124z (q := q) (d + (6 + 3 * o) + 2 + 1) h9 ((fμ.tr f4).tr f5) (i5.trans (i4.trans m9))
            obtain ⟨f6, r6, i6⟩ := r5.w9 (Int32.ofNat a)
            rw [if_pos c41]
            refine Cm.yes (((fμ.tr f4).tr f5).tr f6) (i6.trans h9.symm) r6 ?_
            rw [w1, bnd_0, app0, e_124_16, e5, bnd_0, app0, z1]
          · have w5 := y2 c41
            obtain ⟨z1, z2⟩ := m_124z (q := q) (d + (6 + 3 * o) + 2 + 1) h9 ((fμ.tr f4).tr w5.1) (w5.2.1.trans (i4.trans m9))
            rw [if_neg c41]
            refine Cm.no (z2 w5.2.2.1 w5.2.2.2) ?_
            rw [w1, bnd_0, app0, e_124_16, e5, bnd_0, app0, z1]
      · rw [if_neg c40, if_neg (by rintro (h | h) <;> contradiction)]
        have ht := m_124t (d + 3 * o + 4) g h hpn hl
        rw [show d + 3 * o + 4 + 5 = d + (6 + 3 * o) + 2 + 1 by omega] at ht
        exact ht
theorem m_126s (d : Nat) {ν : MM} {n s A p : Nat} {ch : Nat → Nat} {us : List Int32} (g : CxM ν n s A ch) (h : Md ν A p us) (h9 : gI ν 46 9 = Int32.ofNat 0) (hpn : p ≤ n) (hl : us.length ≤ p) : Cm (ev (d + 23) 126 0 [.ref 46] [] (fx ν)) A ν us (pAny (pOne (chS s) ch 5) ch p) := m_126 d (m_124 g.1.2.1 g.2.2.1.2.1 5 0 rfl) g h h9 hpn hl
