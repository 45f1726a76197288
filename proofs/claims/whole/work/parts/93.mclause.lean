/-! the model's reader: a CLAUSE; how reading begins -/
def pMu (ch : Nat → Nat) (w : Nat) (r : PWs) : PCs := if r.1 = true then (match pNum ch r.2 with
    | none => no0 r.2
    | some (v, q) => if ch q = 32 then (match pAny (pOne (chS 1) ch 5) ch (q + 1) with
      | (true, q3, ts) => (true, q3, (Int32.ofNat w, Int32.ofNat v, ts))
      | (false, q3, _) => no0 q3) else no0 q) else no0 r.2
theorem pCl_mu (ch : Nat → Nat) (p : Nat) : pCl ch p = if ch p = 116 then pMu ch 0 (pAll ch (chS 8) p) else if ch p = 100 then (if ch (p + 1) = 114 then pMu ch 1 (pAll ch (chS 10) (p + 1)) else pMu ch 2 (pAll ch (chS 11) (p + 1))) else no0 p := by
  unfold pCl pHd
  by_cases c1 : ch p = 116
  · rw [if_pos c1, if_pos c1]
    rfl
  · rw [if_neg c1, if_neg c1]
    by_cases c2 : ch p = 100
    · rw [if_pos c2, if_pos c2]
      by_cases c3 : ch (p + 1) = 114
      · rw [if_pos c3, if_pos c3]
        rfl
      · rw [if_neg c3, if_neg c3]
        rfl
    · rw [if_neg c2, if_neg c2]
      rfl
def Cmc (E : Rs) (A : Nat) (ν : MM) (us : List Int32) (r : PCs) : Prop := ∃ ν', E = some (none, fx ν') ∧ (r.1 = true → Fr (PM A) QN ν ν' ∧ gI ν' 46 9 = gI ν 46 9 ∧ Md ν' A r.2.1 (us ++ (r.2.2.2.2.map cvt ++ [kst r.2.2.1 r.2.2.2.1]))) ∧ (r.1 = false → Wr ν ν' A r.2.1)
theorem Cmc.no {E : Rs} {A : Nat} {ν ν' : MM} {us : List Int32} {q : Nat} (h : Wr ν ν' A q) (e : E = some (none, fx ν')) : Cmc E A ν us (no0 q) := ⟨ν', e, fun c => (by cases c), fun _ => h⟩
theorem Cmc.st {E E' : Rs} {A : Nat} {ν μ : MM} {us : List Int32} {r : PCs} (f : Fr (PM A) QN ν μ) (h9 : gI μ 46 9 = gI ν 46 9) (e : E' = E) (h : Cmc E A μ us r) : Cmc E' A ν us r := by
  obtain ⟨ν', h1, h2, h3⟩ := h
  exact ⟨ν', e.trans h1, fun c => ⟨f.tr (h2 c).1, (h2 c).2.1.trans h9, (h2 c).2.2⟩, fun c => (h3 c).pre f h9⟩
theorem Cmc.eq {E E' : Rs} {A : Nat} {ν : MM} {us : List Int32} {r : PCs} (h : Cmc E A ν us r) (e : ∀ ν', E = some (none, fx ν') → E' = some (none, fx ν')) : Cmc E' A ν us r := by
  obtain ⟨ν', h1, h2, h3⟩ := h
  exact ⟨ν', e ν' h1, h2, h3⟩
theorem m_127w3 (d : Nat) {ν : MM} (v1 v3 : Int32) (h8 : gI ν 46 8 = 1) : ev (d + 3) 127 3 [.ref 46, .int v1, .int v3] [] (fx ν) = some (none, fx ν) := by
  rw [e_127_3, m_126w _ h8, bnd_0, app0, e_127_4, m_123w _ _ h8, bnd_0, app0, e_127_5]
theorem m_127w2 (d : Nat) {ν : MM} {A q : Nat} (v1 s0 : Int32) (h6 : gI ν 46 6 = Int32.ofNat q) (h8 : gI ν 46 8 = 1) : ∃ ν', ev (d + 3) 127 2 [.ref 46, .int v1] [.int s0] (fx ν) = some (none, fx ν') ∧ Wr ν ν' A q := by
  obtain ⟨ν1, e1, w1⟩ := m_119w (A := A) (d + 2) 32 h6 h8
  refine ⟨ν1, ?_, w1⟩
  rw [e_127_2, e1, bnd_0, app0, m_127w3 d _ _ w1.2.2.2]
theorem m_127w1 (d : Nat) {ν : MM} {A q : Nat} (v1 : Int32) (h6 : gI ν 46 6 = Int32.ofNat q) (h8 : gI ν 46 8 = 1) : ∃ ν', ev (d + 3) 127 1 [.ref 46, .int v1] [] (fx ν) = some (none, fx ν') ∧ Wr ν ν' A q := by
  obtain ⟨ν1, e1, w1⟩ := m_121w (A := A) (d + 2) h6 h8
  obtain ⟨ν2, e2, w2⟩ := m_127w2 (A := A) d v1 0 w1.2.2.1 w1.2.2.2
  refine ⟨ν2, ?_, w1.tr w2⟩
  rw [e_127_1, e1, bnd_1, app1, e2]
theorem ch17 : chS 7 = chS 1 := by decide
theorem ch612 : chS 12 = chS 6 := by decide
theorem m_127 (d : Nat) {ν : MM} {n A p i w : Nat} {ch : Nat → Nat} {us : List Int32} (kd : Int32) (hk : ∀ v, kst (Int32.ofNat w) v = kd - v) (hi : i < 13) (g : CxM ν n 7 A ch) (h : Md ν A p us) (h9 : gI ν 46 9 = Int32.ofNat 0) (hpn : p ≤ n) (hl : us.length ≤ p) : Cmc (ev (d + 24) 127 0 [.ref 46, .int kd, .ref i] [] (fx ν)) A ν us (pMu ch w (pAll ch (chS i) p)) := by
  have hn := g.1.2.1.1
  obtain ⟨ν1, e1, w1, w2⟩ := m_120 (d + 19) (us := us) hi (strN i) 0 p ν (by omega) g h hpn
  rw [List.drop_zero] at w1 w2
  obtain ⟨a1, a2, a3⟩ := pAll_gd g.1.2.1 (ch_lo i hi) hpn
  have e0 : ev (d + 24) 127 0 [.ref 46, .int kd, .ref i] [] (fx ν) = ev (d + 24) 127 1 [.ref 46, .int kd] [] (fx ν1) := by
    have e1 : ev (d + 23) 120 1 [.ref 46, .ref i, .int 0] [] (fx ν) = some (none, fx ν1) := e1
    rw [e_127_0, e_120_0, e1, bnd_0, app0]
  revert w1 w2 a1 a2 a3
  obtain ⟨b, q⟩ := pAll ch (chS i) p
  intro w1 w2 a1 a2 a3
  have a1 : p ≤ q := a1
  have a2 : q ≤ n := a2
  cases b with
  | false =>
    have w := w2 rfl
    obtain ⟨ν2, e2, x2⟩ := m_127w1 (A := A) (d + 21) kd w.2.2.1 w.2.2.2
    exact Cmc.no (w.tr x2) (e0.trans e2)
  | true =>
    obtain ⟨f1, i1, r1⟩ := w1 rfl
    have r1 : Md ν1 A q us := r1
    have g1 := g.fr f1
    obtain ⟨n1, n2⟩ := m_121 (d + 22) g1 r1 a2
    show Cmc _ A ν us (match pNum ch q with
      | none => no0 q
      | some (v, q) => if ch q = 32 then (match pAny (pOne (chS 1) ch 5) ch (q + 1) with
        | (true, q3, ts) => (true, q3, (Int32.ofNat w, Int32.ofNat v, ts))
        | (false, q3, _) => no0 q3) else no0 q)
    cases e : pNum ch q with
    | none =>
      obtain ⟨ν2, e2, x2⟩ := n1 e
      obtain ⟨ν3, e3, x3⟩ := m_127w2 (A := A) (d + 21) kd 0 x2.2.2.1 x2.2.2.2
      refine Cmc.no ((x2.tr x3).pre f1 i1) ?_
      rw [e0, e_127_1, e2, bnd_1, app1, e3]
    | some vq =>
      obtain ⟨v, q2⟩ := vq
      obtain ⟨v1, v2, v3⟩ := pNum_ok g.1.2.1 e
      obtain ⟨ν2, e2, f2, i2, r2⟩ := n2 v q2 e
      have g2 := g1.fr f2
      obtain ⟨ν3, e3, y1, y2⟩ := m_119 (d + 22) (c := 32) g2 r2 v3 (by decide)
      have e3 : ev (d + 23) 119 0 [.ref 46, .int 32] [] (fx ν2) = some (none, fx ν3) := e3
      have e4 : ev (d + 24) 127 0 [.ref 46, .int kd, .ref i] [] (fx ν) = ev (d + 24) 127 3 [.ref 46, .int kd, .int (Int32.ofNat v)] [] (fx ν3) := by
        rw [e0, e_127_1, e2, bnd_1, app1, e_127_2, e3, bnd_0, app0]
      show Cmc _ A ν us (if ch q2 = 32 then (match pAny (pOne (chS 1) ch 5) ch (q2 + 1) with
        | (true, q3, ts) => (true, q3, (Int32.ofNat w, Int32.ofNat v, ts))
        | (false, q3, _) => no0 q3) else no0 q2)
      by_cases c : ch q2 = 32
      · obtain ⟨f3, i3, r3⟩ := y1 c
        have hq2 : q2 < n := g.1.2.1.lt c (by decide)
        have g3 := g2.fr f3
        have i13 := i3.trans (i2.trans i1)
        have f13 := (f1.tr f2).tr f3
        have hw := m_126s d g3 r3 (i13.trans h9) hq2 (by omega)
        have gw := pE_gd (s := 1) g.1.2.1 (by decide) (p := q2 + 1) hq2
        rw [ch17] at hw
        rw [if_pos c]
        revert hw gw
        obtain ⟨b, q3, ts⟩ := pAny (pOne (chS 1) ch 5) ch (q2 + 1)
        rintro ⟨ν4, x1, x2, x3⟩ gw
        cases b with
        | false =>
          have w := x3 rfl
          refine Cmc.no (w.pre f13 i13) ?_
          rw [e4, e_127_3, x1, bnd_0, app0, e_127_4, m_123w _ _ w.2.2.2, bnd_0, app0, e_127_5]
        | true =>
          obtain ⟨f4, i4, r4⟩ := x2 rfl
          have r4 : Md ν4 A q3 (us ++ ts.map cvt) := r4
          have b4 : q2 + 1 + ts.length + 2 ≤ q3 := (gw.2 rfl).1
          have b5 : q3 ≤ n := gw.1.2
          have g4 := g3.fr f4
          obtain ⟨ν5, e5, f5, i5, r5⟩ := m_123 (d + 23) g4.2.2.2.1 g4.2.2.2.2 r4 (by rw [List.length_append, List.length_map]; omega) (kd - Int32.ofNat v)
          refine ⟨ν5, ?_, fun _ => ⟨(f13.tr f4).tr f5, i5.trans (i4.trans i13), ?_⟩, fun c => by cases c⟩
          · rw [e4, e_127_3, x1, bnd_0, app0, e_127_4, e5, bnd_0, app0, e_127_5]
          · show Md ν5 A q3 (us ++ (ts.map cvt ++ [kst (Int32.ofNat w) (Int32.ofNat v)]))
            rw [hk, ← List.append_assoc]
            exact r5
      · have w := y2 c
        rw [if_neg c]
        refine Cmc.no (w.pre (f1.tr f2) (i2.trans i1)) ?_
        rw [e4, m_127w3 (d + 21) _ _ w.2.2.2]
theorem kst0 (v : Int32) : kst (Int32.ofNat 0) v = (-10) - v := rfl
theorem kst1 (v : Int32) : kst (Int32.ofNat 1) v = (-200) - v := rfl
theorem kst2 (v : Int32) : kst (Int32.ofNat 2) v = (-400) - v := rfl
theorem m_129 (d : Nat) {ν : MM} {n A p : Nat} {ch : Nat → Nat} {us : List Int32} (g : CxM ν n 7 A ch) (h : Md ν A p us) (h9 : gI ν 46 9 = Int32.ofNat 0) (hpn : p ≤ n) (hl : us.length ≤ p) : Cmc (ev (d + 26) 129 0 [.ref 46] [] (fx ν)) A ν us (pCl ch p) := by
  have hch := g.ch p
  have hch1 := g.ch (p + 1)
  have q116 : (hv (ch p) = 116) = (ch p = 116) := hv_eq (k := 116) hch (by decide)
  have q100 : (hv (ch p) = 100) = (ch p = 100) := hv_eq (k := 100) hch (by decide)
  have q114 : (hv (ch (p + 1)) = 114) = (ch (p + 1) = 114) := hv_eq (k := 114) hch1 (by decide)
  have e0 : ev (d + 26) 129 0 [.ref 46] [] (fx ν) = if ch p = 100 then ev (d + 26) 129 4 [.ref 46] [] (fx ν) else if ch p = 116 then ev (d + 26) 129 2 [.ref 46] [] (fx ν) else ev (d + 26) 129 6 [.ref 46] [] (fx ν) := by
    rw [e_129_0, m_118 _ g h.1 hpn, bnd_1, app1, e_129_1]
    by_cases c1 : ch p = 100
    · rw [if_pos c1, if_pos (by rw [q100]; exact c1)]
    · rw [if_neg c1, if_neg (by rw [q100]; exact c1)]
      by_cases c2 : ch p = 116
      · rw [if_pos c2, if_pos (by rw [q116]; exact c2)]
      · rw [if_neg c2, if_neg (by rw [q116]; exact c2)]
  rw [pCl_mu]
  by_cases c1 : ch p = 116
  · rw [if_pos c1]
    refine (m_127 (d + 1) (-10) kst0 (by decide) g h h9 hpn hl).eq fun ν' e => ?_
    rw [e0, if_neg (by omega), if_pos c1, e_129_2, e, bnd_0, app0, e_129_3, e_129_7]
  · rw [if_neg c1]
    by_cases c2 : ch p = 100
    · obtain ⟨ν1, e1, w1, -⟩ := m_119 (d + 23) (c := 100) g h hpn (by decide)
      have e1 : ev (d + 24) 119 0 [.ref 46, .int 100] [] (fx ν) = some (none, fx ν1) := e1
      obtain ⟨f1, i1, r1⟩ := w1 c2
      have hp : p < n := g.1.2.1.lt c2 (by decide)
      have g1 := g.fr f1
      have e2 : ev (d + 26) 129 0 [.ref 46] [] (fx ν) = bnd 0 (if ch (p + 1) = 114 then ev (d + 25) 128 3 [.ref 46] [] (fx ν1) else ev (d + 25) 128 5 [.ref 46] [] (fx ν1)) fun rs μ1 => ev (d + 26) 129 5 [] (rs ++ []) μ1 := by
        rw [e0, if_pos c2, e_129_4, e_128_0, e1, bnd_0, app0, e_128_1, m_118 _ g1 r1.1 hp, bnd_1, app1, e_128_2]
        by_cases c3 : ch (p + 1) = 114
        · rw [if_pos c3, if_pos (by rw [q114]; exact c3)]
        · rw [if_neg c3, if_neg (by rw [q114]; exact c3)]
      rw [if_pos c2]
      by_cases c3 : ch (p + 1) = 114
      · rw [if_pos c3] at e2 ⊢
        refine ((m_127 d (-200) kst1 (i := 10) (by decide) g1 r1 (i1.trans h9) hp (by omega)).eq (E' := ev (d + 26) 129 0 [.ref 46] [] (fx ν)) fun ν' e => ?_).st f1 i1 rfl
        rw [e2, e_128_3, e, bnd_0, app0, e_128_4, e_128_6, bnd_0, app0, e_129_5, e_129_7]
      · rw [if_neg c3] at e2 ⊢
        refine ((m_127 d (-400) kst2 (i := 11) (by decide) g1 r1 (i1.trans h9) hp (by omega)).eq (E' := ev (d + 26) 129 0 [.ref 46] [] (fx ν)) fun ν' e => ?_).st f1 i1 rfl
        rw [e2, e_128_5, e, bnd_0, app0, e_128_6, bnd_0, app0, e_129_5, e_129_7]
    · rw [if_neg c2]
      refine Cmc.no (wr8 h.1) ?_
      rw [e0, if_neg c2, if_neg c1, e_129_6, e_129_7]
theorem fx_gI (μ : MM) (q k : Nat) : gI (fx μ) q k = gI μ q k := rfl
/-- begins -/
def Beg (ν : MM) (A v2 n : Nat) : MM := sI (sI (sI (sI (sI (sI (sR (sI ν 46 4 (Int32.ofNat A)) 46 5 (some v2)) 46 7 (Int32.ofNat n)) 47 5 0) 47 (152 + A) 0) 46 6 0) 46 8 0) 46 9 0
theorem m_130 (d : Nat) {ν : MM} {A v2 n : Nat} (hA : A < 10) (h5 : gI ν 47 5 = Int32.ofNat n) : ev d 130 0 [.ref 46, .int (Int32.ofNat A), .ref v2] [] (fx ν) = some (none, fx (Beg ν A v2 n)) := by
  obtain ⟨-, -, n2⟩ := act_num A hA
  obtain ⟨X, hX⟩ : ∃ X, X = sR (sI ν 46 4 (Int32.ofNat A)) 46 5 (some v2) := ⟨_, rfl⟩
  have i5 : gI (fx X) 47 5 = Int32.ofNat n := by
    show gI X 47 5 = _
    rw [hX, gI_sR, gI_sI, if_neg (by omega)]
    exact h5
  obtain ⟨Y, hY⟩ : ∃ Y, Y = sI (sI X 46 7 (Int32.ofNat n)) 47 5 0 := ⟨_, rfl⟩
  have i4 : gI (fx Y) 46 4 = Int32.ofNat A := by
    show gI Y 46 4 = _
    rw [hY, gI_sI, if_neg (by omega), gI_sI, if_neg (by omega), hX, gI_sR, gI_sI, if_pos ⟨rfl, rfl⟩]
  unfold Beg
  rw [e_130_0, fx_sR _ _ rfl, ← hX, i5, fx_sI, fx_sI, ← hY, i4, n2, inb_O (by omega) (by omega), gd_t, tn_O (by omega), fx_sI, fx_sI, fx_sI, fx_sI]
