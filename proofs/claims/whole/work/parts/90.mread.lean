/-! the model's reader, sign by sign -/
def PM (A q k : Nat) : Bool := decide ((q = 46 ∧ (k = 6 ∨ k = 8 ∨ k = 9)) ∨ (q = 47 ∧ (k = 152 + A ∨ (162 + 140 * A ≤ k ∧ k < 302 + 140 * A))))
theorem PM_ne {A q k : Nat} (h : ¬ ((q = 46 ∧ (k = 6 ∨ k = 8 ∨ k = 9)) ∨ (q = 47 ∧ (k = 152 + A ∨ (162 + 140 * A ≤ k ∧ k < 302 + 140 * A))))) : PM A q k = false := decide_eq_false h
theorem PM_t {A q k : Nat} (h : (q = 46 ∧ (k = 6 ∨ k = 8 ∨ k = 9)) ∨ (q = 47 ∧ (k = 152 + A ∨ (162 + 140 * A ≤ k ∧ k < 302 + 140 * A)))) : PM A q k = true := decide_eq_true h
def hv (c : Nat) : Int32 := if c < 128 then Int32.ofNat c else -1
theorem hv_eq {c k : Nat} (hc : c ≤ 128) (hk : k < 128) : (hv c = Int32.ofNat k) = (c = k) := by
  unfold hv
  by_cases h : c < 128
  · rw [if_pos h, O_eq (by omega) (by omega)]
  · rw [if_neg h]
    have q : ∀ k, k < 128 → ¬ (-1 = Int32.ofNat k) := by decide +kernel
    exact propext ⟨fun e => absurd e (q k hk), fun e => absurd e (by omega)⟩
def CxM (ν : MM) (n s A : Nat) (ch : Nat → Nat) : Prop := (gI ν 46 7 = Int32.ofNat n ∧ okTx ch n ∧ ∀ p, p < n → gI ν 47 (52 + p) = Int32.ofNat (ch p)) ∧ Str ν ∧ (gR ν 46 5 = some s ∧ s < 13 ∧ 0 < strN s) ∧ gI ν 46 4 = Int32.ofNat A ∧ A < 10
def Md (ν : MM) (A p : Nat) (us : List Int32) : Prop := gI ν 46 6 = Int32.ofNat p ∧ gI ν 46 8 = 0 ∧ gI ν 47 (152 + A) = Int32.ofNat us.length ∧ us.length ≤ 140 ∧ ∀ j, (h : j < us.length) → gI ν 47 (162 + 140 * A + j) = us[j]
theorem CxM.fr {ν ν' : MM} {n s A : Nat} {ch : Nat → Nat} (f : Fr (PM A) QN ν ν') (g : CxM ν n s A ch) : CxM ν' n s A ch := by
  obtain ⟨⟨g1, g2, g3⟩, g4, ⟨g5, g6, g7⟩, g8, g9⟩ := g
  have hn := g2.1
  refine ⟨⟨by rw [f.rI _ _ (PM_ne (by omega))]; exact g1, g2, fun p hp => by rw [f.rI _ _ (PM_ne (by omega))]; exact g3 p hp⟩, fun i hi => ?_, ⟨by rw [f.rR]; exact g5, g6, g7⟩, by rw [f.rI _ _ (PM_ne (by omega))]; exact g8, g9⟩
  refine ⟨by rw [f.rI _ _ (PM_ne (by omega))]; exact (g4 i hi).1, fun j => by rw [f.rI _ _ (PM_ne (by omega))]; exact (g4 i hi).2 j⟩
theorem CxM.ch {ν : MM} {n s A : Nat} {ch : Nat → Nat} (g : CxM ν n s A ch) (p : Nat) : ch p ≤ 128 := by
  by_cases h : p < n
  · have := (g.1.2.1.2 p).1 h; omega
  · have := (g.1.2.1.2 p).2 (by omega); omega
/-- another place, the same steps -/
theorem Md.at {ν : MM} {A p : Nat} (q : Nat) {us : List Int32} (h : Md ν A p us) : Fr (PM A) QN ν (sI ν 46 6 (Int32.ofNat q)) ∧ Md (sI ν 46 6 (Int32.ofNat q)) A q us ∧ gI (sI ν 46 6 (Int32.ofNat q)) 46 9 = gI ν 46 9 := by
  obtain ⟨h1, h2, h3, h4, h5⟩ := h
  exact ⟨Fr.wI _ (PM_t (by omega)), ⟨by rw [gI_sI, if_pos ⟨rfl, rfl⟩], by rw [gI_sI, if_neg (by omega)]; exact h2, by rw [gI_sI, if_neg (by omega)]; exact h3, h4, fun j hj => by rw [gI_sI, if_neg (by omega)]; exact h5 j hj⟩, by rw [gI_sI, if_neg (by omega)]⟩
theorem Md.w8 {ν : MM} {A p : Nat} {us : List Int32} (h : Md ν A p us) : Fr (PM A) QN ν (sI ν 46 8 0) ∧ Md (sI ν 46 8 0) A p us ∧ gI (sI ν 46 8 0) 46 9 = gI ν 46 9 := by
  obtain ⟨h1, h2, h3, h4, h5⟩ := h
  exact ⟨Fr.wI _ (PM_t (by omega)), ⟨by rw [gI_sI, if_neg (by omega)]; exact h1, by rw [gI_sI, if_pos ⟨rfl, rfl⟩], by rw [gI_sI, if_neg (by omega)]; exact h3, h4, fun j hj => by rw [gI_sI, if_neg (by omega)]; exact h5 j hj⟩, by rw [gI_sI, if_neg (by omega)]⟩
/-- what is wrong stays so, the place too -/
def Wr (ν ν' : MM) (A q : Nat) : Prop := Fr (PM A) QN ν ν' ∧ gI ν' 46 9 = gI ν 46 9 ∧ gI ν' 46 6 = Int32.ofNat q ∧ gI ν' 46 8 = 1
theorem Wr.pre {a b c : MM} {A q : Nat} (f : Fr (PM A) QN a b) (h9 : gI b 46 9 = gI a 46 9) (h : Wr b c A q) : Wr a c A q := ⟨f.tr h.1, h.2.1.trans h9, h.2.2⟩
theorem Wr.tr {a b c : MM} {A p q : Nat} (h : Wr a b A p) (g : Wr b c A q) : Wr a c A q := g.pre h.1 h.2.1
theorem wr8 {ν : MM} {A p : Nat} (h : gI ν 46 6 = Int32.ofNat p) : Wr ν (sI ν 46 8 1) A p := ⟨Fr.wI _ (PM_t (by omega)), by rw [gI_sI, if_neg (by omega)], by rw [gI_sI, if_neg (by omega)]; exact h, by rw [gI_sI, if_pos ⟨rfl, rfl⟩]⟩
theorem wr1 : ¬ (1 : Int32) = 0 := by decide
theorem m_118 (d : Nat) {ν : MM} {n s A p : Nat} {ch : Nat → Nat} (g : CxM ν n s A ch) (hp : gI ν 46 6 = Int32.ofNat p) (hpn : p ≤ n) : ev d 118 0 [.ref 46] [] (fx ν) = some (some (.int (hv (ch p))), fx ν) := by
  obtain ⟨⟨g1, g2, g3⟩, -⟩ := g
  have hn := g2.1
  rw [e_118_0, g1, hp]
  unfold hv
  by_cases c : p < n
  · have a2 : ¬ Int32.ofNat n ≤ Int32.ofNat p := by rw [O_le (by omega) (by omega)]; omega
    have n52 : (52 : Int32) + Int32.ofNat p = Int32.ofNat (52 + p) := by rw [show (52 : Int32) = Int32.ofNat 52 from rfl, O_add]
    rw [if_neg a2, e_118_1, hp, n52, inb_O (by omega) (by omega), gd_t, tn_O (by omega), g3 p c, e_118_3, if_pos ((g2.2 p).1 c)]
  · have a2 : Int32.ofNat n ≤ Int32.ofNat p := by rw [O_le (by omega) (by omega)]; omega
    rw [if_pos a2, e_118_2, e_118_3, (g2.2 p).2 (by omega), if_neg (by decide)]
/-- must, when all is wrong -/
theorem m_119w (d : Nat) {ν : MM} {A q : Nat} (v : Int32) (h6 : gI ν 46 6 = Int32.ofNat q) (h8 : gI ν 46 8 = 1) : ∃ ν', ev d 119 0 [.ref 46, .int v] [] (fx ν) = some (none, fx ν') ∧ Wr ν ν' A q := by
  have e6 : gI (sI ν 46 8 1) 46 6 + 0 = Int32.ofNat q := by rw [gI_sI, if_neg (by omega), h6, Int32.add_zero]
  refine ⟨sI (sI ν 46 8 1) 46 6 (Int32.ofNat q), ?_, (Fr.wI _ (PM_t (by omega))).tr (Fr.wI _ (PM_t (by omega))), ?_, ?_, ?_⟩
  · rw [e_119_0, h8, if_neg wr1, e_119_3, e_119_5, b01_1, gd_t, show gI (sI ν 46 8 1) 46 8 = 1 from by rw [gI_sI, if_pos ⟨rfl, rfl⟩], if_neg wr1, e_119_6, e_119_8, e6]
  · rw [gI_sI, if_neg (by omega), gI_sI, if_neg (by omega)]
  · rw [gI_sI, if_pos ⟨rfl, rfl⟩]
  · rw [gI_sI, if_neg (by omega), gI_sI, if_pos ⟨rfl, rfl⟩]
theorem m_119 (d : Nat) {ν : MM} {n s A p c : Nat} {ch : Nat → Nat} {us : List Int32} (g : CxM ν n s A ch) (h : Md ν A p us) (hpn : p ≤ n) (hc : c < 128) : ∃ ν', ev (d + 1) 119 0 [.ref 46, .int (Int32.ofNat c)] [] (fx ν) = some (none, fx ν') ∧ (ch p = c → Fr (PM A) QN ν ν' ∧ gI ν' 46 9 = gI ν 46 9 ∧ Md ν' A (p + 1) us) ∧ (¬ ch p = c → Wr ν ν' A p) := by
  have hch := g.ch p
  have e0 : ev (d + 1) 119 0 [.ref 46, .int (Int32.ofNat c)] [] (fx ν) = if ch p = c then ev (d + 1) 119 4 [.ref 46] [.ref 46] (fx ν) else ev (d + 1) 119 3 [.ref 46] [.ref 46] (fx ν) := by
    rw [e_119_0, h.2.1, if_pos rfl, e_119_1, m_118 d g h.1 hpn, bnd_1, app1, e_119_2]
    by_cases e : ch p = c
    · rw [if_pos e, if_pos (by rw [hv_eq hch hc]; exact e)]
    · rw [if_neg e, if_neg (by rw [hv_eq hch hc]; exact e)]
  by_cases e : ch p = c
  · obtain ⟨f1, r1, i1⟩ := h.w8
    obtain ⟨f2, r2, i2⟩ := r1.at (p + 1)
    refine ⟨_, ?_, fun _ => ⟨f1.tr f2, i2.trans i1, r2⟩, fun h => absurd e h⟩
    rw [e0, if_pos e, e_119_4, e_119_5, b01_0, gd_t, r1.2.1, if_pos rfl, e_119_7, e_119_8, r1.1, O_p1]
  · have e6 : gI (sI ν 46 8 1) 46 6 + 0 = Int32.ofNat p := by rw [gI_sI, if_neg (by omega), h.1, Int32.add_zero]
    refine ⟨sI (sI ν 46 8 1) 46 6 (Int32.ofNat p), ?_, fun h => absurd h e, fun _ => ⟨(Fr.wI _ (PM_t (by omega))).tr (Fr.wI _ (PM_t (by omega))), ?_, ?_, ?_⟩⟩
    · rw [e0, if_neg e, e_119_3, e_119_5, b01_1, gd_t, show gI (sI ν 46 8 1) 46 8 = 1 from by rw [gI_sI, if_pos ⟨rfl, rfl⟩], if_neg wr1, e_119_6, e_119_8, e6]
    · rw [gI_sI, if_neg (by omega), gI_sI, if_neg (by omega)]
    · rw [gI_sI, if_pos ⟨rfl, rfl⟩]
    · rw [gI_sI, if_neg (by omega), gI_sI, if_pos ⟨rfl, rfl⟩]
/-- emits -/
theorem m_123w (d : Nat) {ν : MM} (v : Int32) (h8 : gI ν 46 8 = 1) : ev d 123 0 [.ref 46, .int v] [] (fx ν) = some (none, fx ν) := by
  rw [e_123_0, h8, if_neg wr1, e_123_2]
theorem m_123 (d : Nat) {ν : MM} {A p : Nat} {us : List Int32} (h4 : gI ν 46 4 = Int32.ofNat A) (hA : A < 10) (h : Md ν A p us) (hl : us.length < 140) (t : Int32) : ∃ ν', ev d 123 0 [.ref 46, .int t] [] (fx ν) = some (none, fx ν') ∧ Fr (PM A) QN ν ν' ∧ gI ν' 46 9 = gI ν 46 9 ∧ Md ν' A p (us ++ [t]) := by
  obtain ⟨h1, h2, h3, h5, h6⟩ := h
  obtain ⟨-, n1, n2⟩ := act_num A hA
  have i4 : gI (sI ν 47 (162 + 140 * A + us.length) t) 46 4 = Int32.ofNat A := by rw [gI_sI, if_neg (by omega)]; exact h4
  have i5 : gI (sI ν 47 (162 + 140 * A + us.length) t) 47 (152 + A) + 1 = Int32.ofNat (us.length + 1) := by rw [gI_sI, if_neg (by omega), h3, O_p1]
  refine ⟨sI (sI ν 47 (162 + 140 * A + us.length) t) 47 (152 + A) (Int32.ofNat (us.length + 1)), ?_, (Fr.wI _ (PM_t (by omega))).tr (Fr.wI _ (PM_t (by omega))), ?_, ?_, ?_, ?_, ?_, fun j hj => ?_⟩
  · rw [e_123_0, h2, if_pos rfl, e_123_1, h4, n2, n1, inb_O (by omega) (by omega), gd_t, tn_O (i := 152 + A) (by omega), h3, O_add, inb_O (by omega) (by omega), gd_t, tn_O (i := 162 + 140 * A + us.length) (by omega), i4, n2, inb_O (by omega) (by omega), gd_t, gd_t, tn_O (i := 152 + A) (by omega), i5, e_123_2]
  · rw [gI_sI, if_neg (by omega), gI_sI, if_neg (by omega)]
  · rw [gI_sI, if_neg (by omega), gI_sI, if_neg (by omega)]; exact h1
  · rw [gI_sI, if_neg (by omega), gI_sI, if_neg (by omega)]; exact h2
  · rw [gI_sI, if_pos ⟨rfl, rfl⟩, List.length_append, List.length_singleton]
  · rw [List.length_append, List.length_singleton]; omega
  · rw [List.length_append, List.length_singleton] at hj
    rw [gI_sI, if_neg (by omega), gI_sI]
    by_cases c : j = us.length
    · rw [if_pos ⟨rfl, by omega⟩]
      subst c
      rw [List.getElem_append_right (Nat.le_refl _)]
      simp
    · have hj' : j < us.length := by omega
      rw [if_neg (by omega), h6 j hj', List.getElem_append_left hj']
/-- figures -/
theorem rg_hv {c : Nat} (hc : c ≤ 128) : rg 48 57 (hv c) = dg c := by
  have q : ∀ c, c < 129 → rg 48 57 (hv c) = dg c := by decide +kernel
  exact q c (by omega)
theorem hv_dg {c : Nat} (h : dg c = true) : hv c = Int32.ofNat c ∧ 48 ≤ c ∧ c ≤ 57 := by
  have := (dg_iff c).mp h
  unfold hv
  exact ⟨if_pos (by omega), this.1, this.2⟩
theorem m_121w (d : Nat) {ν : MM} {A q : Nat} (h6 : gI ν 46 6 = Int32.ofNat q) (h8 : gI ν 46 8 = 1) : ∃ ν', ev d 121 0 [.ref 46] [] (fx ν) = some (some (.int 0), fx ν') ∧ Wr ν ν' A q := by
  have w := wr8 (A := A) h6
  refine ⟨_, ?_, w⟩
  rw [e_121_0, h8, if_neg wr1, e_121_4, e_121_6, b01_1, gd_t, e_121_7, if_neg (by decide), e_121_8, w.2.2.2, if_neg wr1, e_121_16]
theorem m_121 (d : Nat) {ν : MM} {n s A p : Nat} {ch : Nat → Nat} {us : List Int32} (g : CxM ν n s A ch) (h : Md ν A p us) (hpn : p ≤ n) : (pNum ch p = none → ∃ ν', ev (d + 1) 121 0 [.ref 46] [] (fx ν) = some (some (.int 0), fx ν') ∧ Wr ν ν' A p) ∧ ∀ v q, pNum ch p = some (v, q) → ∃ ν', ev (d + 1) 121 0 [.ref 46] [] (fx ν) = some (some (.int (Int32.ofNat v)), fx ν') ∧ Fr (PM A) QN ν ν' ∧ gI ν' 46 9 = gI ν 46 9 ∧ Md ν' A q us := by
  have hch := g.ch p
  have e0 : ev (d + 1) 121 0 [.ref 46] [] (fx ν) = if dg (ch p) = true then ev (d + 1) 121 7 [.ref 46, .int 0, .int 0] [] (fx (sI ν 46 8 0)) else ev (d + 1) 121 7 [.ref 46, .int 0, .int 0] [] (fx (sI ν 46 8 1)) := by
    rw [e_121_0, h.2.1, if_pos rfl, e_121_1, m_118 d g h.1 hpn, bnd_1, app1, e_121_2, s_113r, bnd_1, app1, e_121_3, rg_hv hch, bI_0]
    by_cases c : dg (ch p) = true
    · rw [if_pos c, if_pos c, e_121_5, e_121_6, b01_0, gd_t]
    · rw [if_neg c, if_neg c, e_121_4, e_121_6, b01_1, gd_t]
  by_cases c : dg (ch p) = true
  · obtain ⟨c1, c2, c3⟩ := hv_dg c
    obtain ⟨f1, r1, i1⟩ := h.w8
    obtain ⟨f2, r2, i2⟩ := r1.at (p + 1)
    have g1 := g.fr f1
    have g2 := g1.fr f2
    have hp : p < n := g.1.2.1.lt (p := p) rfl (by omega)
    have hch1 := g.ch (p + 1)
    have vv : ∀ c, c < 58 → 48 ≤ c → ((10 : Int32) * 0 + Int32.ofNat c) - 48 = Int32.ofNat (c - 48) := by decide +kernel
    have e1 : ev (d + 1) 121 0 [.ref 46] [] (fx ν) = ev (d + 1) 121 11 [.ref 46, .int (Int32.ofNat (ch p - 48)), .int 1] [.int (bI (dg (ch (p + 1))))] (fx (sI (sI ν 46 8 0) 46 6 (Int32.ofNat (p + 1)))) := by
      rw [e0, if_pos c, e_121_7, if_neg (by decide), e_121_8, r1.2.1, if_pos rfl, e_121_9, m_118 d g1 r1.1 hpn, bnd_1, app1, e_121_10, s_113r, bnd_1, app1, e_121_11, rg_hv hch, c, bI_t, if_neg wr1, e_121_12, if_pos rfl, e_121_14, m_118 d g1 r1.1 hpn, bnd_1, app1, e_121_15, c1, vv _ (by omega) c2, r1.1, O_p1]
      show ev (d + 1) 121 7 [.ref 46, .int (Int32.ofNat (ch p - 48)), .int 1] [] (fx (sI (sI ν 46 8 0) 46 6 (Int32.ofNat (p + 1)))) = _
      rw [e_121_7, if_neg (by decide), e_121_8, r2.2.1, if_pos rfl, e_121_9, m_118 d g2 r2.1 hp, bnd_1, app1, e_121_10, s_113r, bnd_1, app1, rg_hv hch1]
    unfold pNum
    rw [if_pos c]
    by_cases z : ch p = 48 ∨ dg (ch (p + 1)) = false
    · rw [if_pos z]
      refine ⟨fun e => (by cases e), fun v q e => ?_⟩
      cases e
      refine ⟨_, ?_, f1.tr f2, i2.trans i1, r2⟩
      rw [e1, e_121_11, bI_0]
      by_cases y : dg (ch (p + 1)) = true
      · have z' : ch p = 48 := z.elim id (fun h => by rw [y] at h; cases h)
        rw [if_pos y, e_121_12, if_neg wr1, e_121_13, z', if_pos (by decide), e_121_16]
      · rw [if_neg y, e_121_16]
    · rw [if_neg z]
      refine ⟨fun e => (by cases e), fun v q e => ?_⟩
      cases e
      have y : dg (ch (p + 1)) = true := by
        cases hq : dg (ch (p + 1)) with
        | true => rfl
        | false => exact absurd (Or.inr hq) z
      have z48 : ¬ ch p = 48 := fun h => z (Or.inl h)
      obtain ⟨y1, y2, y3⟩ := hv_dg y
      obtain ⟨f3, r3, i3⟩ := r2.at (p + 2)
      refine ⟨_, ?_, (f1.tr f2).tr f3, i3.trans (i2.trans i1), r3⟩
      have z0 : ¬ Int32.ofNat (ch p - 48) ≤ 0 := by
        show ¬ Int32.ofNat (ch p - 48) ≤ Int32.ofNat 0
        rw [O_le (by omega) (by omega)]; omega
      have ww : ∀ a, a < 10 → ∀ c, c < 58 → 48 ≤ c → ((10 : Int32) * Int32.ofNat a + Int32.ofNat c) - 48 = Int32.ofNat (a * 10 + (c - 48)) := by decide +kernel
      rw [e1, y, e_121_11, bI_t, if_neg wr1, e_121_12, if_neg wr1, e_121_13, if_neg z0, e_121_14, m_118 d g2 r2.1 hp, bnd_1, app1, e_121_15, y1, ww _ (by omega) _ (by omega) y2, r2.1, O_p1]
      show ev (d + 1) 121 7 [.ref 46, .int (Int32.ofNat ((ch p - 48) * 10 + (ch (p + 1) - 48))), .int 2] [] _ = _
      rw [e_121_7, if_pos (by decide), e_121_16]
  · have w := wr8 (A := A) h.1
    unfold pNum
    rw [if_neg c]
    refine ⟨fun _ => ⟨_, ?_, w⟩, fun v q e => by cases e⟩
    rw [e0, if_neg c, e_121_7, if_neg (by decide), e_121_8, w.2.2.2, if_neg wr1, e_121_16]
/-- among -/
theorem m_122 (d : Nat) {ν : MM} {n s A p i : Nat} {ch : Nat → Nat} {us : List Int32} (hi : i < 13) (g : CxM ν n s A ch) (h : Md ν A p us) (hpn : p ≤ n) : ∀ (m k : Nat), k + m = strN i → (ixN ((chS i).drop k) (ch p) = none → ev (d + 4) 122 1 [.ref 46, .ref i, .int (Int32.ofNat k)] [] (fx ν) = some (some (.int (-1)), fx ν)) ∧ ∀ a, ixN ((chS i).drop k) (ch p) = some a → ev (d + 4) 122 1 [.ref 46, .ref i, .int (Int32.ofNat k)] [] (fx ν) = some (some (.int (Int32.ofNat (k + a))), fx (sI ν 46 6 (Int32.ofNat (p + 1)))) := by
  obtain ⟨hl, hl5⟩ := chS_len i hi
  obtain ⟨h1, h2⟩ := g.2.1 i hi
  have hch := g.ch p
  intro m
  induction m with
  | zero =>
    intro k hk
    have h3 : Int32.ofNat (strN i) ≤ Int32.ofNat k := by rw [O_le (by omega) (by omega)]; omega
    rw [List.drop_eq_nil_of_le (by omega)]
    refine ⟨fun _ => ?_, fun a e => by cases e⟩
    rw [e_122_1, sh30 ν hi]
    show bnd 1 (ev (d + 3) 196 0 [.ref i] [] (fx ν)) _ = _
    rw [s_196 _ hi h1, bnd_1, app1, e_122_2, if_pos h3, e_122_8]
  | succ m ih =>
    intro k hk
    obtain ⟨i1, i2⟩ := ih (k + 1) (by omega)
    have h3 : ¬ Int32.ofNat (strN i) ≤ Int32.ofNat k := by rw [O_le (by omega) (by omega)]; omega
    obtain ⟨q1, q2, q3, q4⟩ := strB_ch (i := i) (j := k) hi (by omega)
    have hd : (chS i).drop k = (chS i).getD k 0 :: (chS i).drop (k + 1) := by
      rw [List.drop_eq_getElem_cons (by omega), List.getD_eq_getElem?_getD, List.getElem?_eq_getElem (by omega)]
      rfl
    have e0 : ev (d + 4) 122 1 [.ref 46, .ref i, .int (Int32.ofNat k)] [] (fx ν) = if ch p = (chS i).getD k 0 then some (some (.int (Int32.ofNat k)), fx (sI ν 46 6 (Int32.ofNat (p + 1)))) else ev (d + 4) 122 1 [.ref 46, .ref i, .int (Int32.ofNat (k + 1))] [] (fx ν) := by
      rw [e_122_1, sh30 ν hi]
      show bnd 1 (ev (d + 3) 196 0 [.ref i] [] (fx ν)) _ = _
      rw [s_196 _ hi h1, bnd_1, app1, e_122_2, if_neg h3, e_122_3, m_118 _ g h.1 hpn, bnd_1, app1, e_122_4, sh30 ν hi]
      show bnd 1 (ev (d + 3) 197 0 [.ref i, .int (Int32.ofNat k)] [] (fx ν)) _ = _
      rw [s_197 d g.2.1 hi (by omega), bnd_1, app1, e_122_5]
      by_cases e : ch p = (chS i).getD k 0
      · rw [if_pos e, if_pos (by rw [hv_eq hch q2]; exact e), e_122_6, h.1, O_p1]
      · rw [if_neg e, if_neg (by rw [hv_eq hch q2]; exact e), e_122_7, O_p1]
    rw [e0, hd]
    show ((if ch p = (chS i).getD k 0 then some 0 else (match ixN ((chS i).drop (k + 1)) (ch p) with
      | none => none
      | some i => some (i + 1))) = none → _) ∧ ∀ a, (if ch p = (chS i).getD k 0 then some 0 else (match ixN ((chS i).drop (k + 1)) (ch p) with
      | none => none
      | some i => some (i + 1))) = some a → _
    by_cases e : ch p = (chS i).getD k 0
    · rw [if_pos e, if_pos e]
      refine ⟨fun h => (by cases h), fun a h => ?_⟩
      cases h
      rfl
    · rw [if_neg e, if_neg e]
      cases hx : ixN ((chS i).drop (k + 1)) (ch p) with
      | none => exact ⟨fun _ => i1 hx, fun a h => by cases h⟩
      | some b =>
        refine ⟨fun h => (by cases h), fun a h => ?_⟩
        cases h
        rw [i2 b hx, show k + 1 + b = k + (b + 1) by omega]
/-- spells -/
theorem m_120w (d : Nat) {i : Nat} (hi : i < 13) {A q : Nat} : ∀ (m k : Nat) (ν : MM), k + m = strN i → Str ν → gI ν 46 6 = Int32.ofNat q → gI ν 46 8 = 1 → ∃ ν', ev (d + 4) 120 1 [.ref 46, .ref i, .int (Int32.ofNat k)] [] (fx ν) = some (none, fx ν') ∧ Wr ν ν' A q := by
  obtain ⟨hl, hl5⟩ := chS_len i hi
  intro m
  induction m with
  | zero =>
    intro k ν hk hS h6 h8
    obtain ⟨h1, h2⟩ := hS i hi
    have h3 : Int32.ofNat (strN i) ≤ Int32.ofNat k := by rw [O_le (by omega) (by omega)]; omega
    refine ⟨ν, ?_, Fr.rf, rfl, h6, h8⟩
    rw [e_120_1, sh30 ν hi]
    show bnd 1 (ev (d + 3) 196 0 [.ref i] [] (fx ν)) _ = _
    rw [s_196 _ hi h1, bnd_1, app1, e_120_2, if_pos h3, e_120_6]
  | succ m ih =>
    intro k ν hk hS h6 h8
    obtain ⟨h1, h2⟩ := hS i hi
    have h3 : ¬ Int32.ofNat (strN i) ≤ Int32.ofNat k := by rw [O_le (by omega) (by omega)]; omega
    obtain ⟨ν1, e1, w1⟩ := m_119w (A := A) (d + 3) (Int32.ofNat ((chS i).getD k 0)) h6 h8
    have hS1 : Str ν1 := fun j hj => by
      refine ⟨by rw [w1.1.rI _ _ (PM_ne (by omega))]; exact (hS j hj).1, fun x => by rw [w1.1.rI _ _ (PM_ne (by omega))]; exact (hS j hj).2 x⟩
    obtain ⟨ν2, e2, w2⟩ := ih (k + 1) ν1 (by omega) hS1 w1.2.2.1 w1.2.2.2
    refine ⟨ν2, ?_, w1.tr w2⟩
    rw [e_120_1, sh30 ν hi]
    show bnd 1 (ev (d + 3) 196 0 [.ref i] [] (fx ν)) _ = _
    rw [s_196 _ hi h1, bnd_1, app1, e_120_2, if_neg h3, e_120_3, sh30 ν hi]
    show bnd 1 (ev (d + 3) 197 0 [.ref i, .int (Int32.ofNat k)] [] (fx ν)) _ = _
    rw [s_197 d hS hi (by omega), bnd_1, app1, e_120_4, e1, bnd_0, app0, e_120_5, O_p1, e2]
theorem m_120 (d : Nat) {n s A i : Nat} {ch : Nat → Nat} {us : List Int32} (hi : i < 13) : ∀ (m k p : Nat) (ν : MM), k + m = strN i → CxM ν n s A ch → Md ν A p us → p ≤ n → ∃ ν', ev (d + 4) 120 1 [.ref 46, .ref i, .int (Int32.ofNat k)] [] (fx ν) = some (none, fx ν') ∧ ((pAll ch ((chS i).drop k) p).1 = true → Fr (PM A) QN ν ν' ∧ gI ν' 46 9 = gI ν 46 9 ∧ Md ν' A (pAll ch ((chS i).drop k) p).2 us) ∧ ((pAll ch ((chS i).drop k) p).1 = false → Wr ν ν' A (pAll ch ((chS i).drop k) p).2) := by
  obtain ⟨hl, hl5⟩ := chS_len i hi
  intro m
  induction m with
  | zero =>
    intro k p ν hk g h hpn
    obtain ⟨h1, h2⟩ := g.2.1 i hi
    have h3 : Int32.ofNat (strN i) ≤ Int32.ofNat k := by rw [O_le (by omega) (by omega)]; omega
    rw [List.drop_eq_nil_of_le (by omega)]
    refine ⟨ν, ?_, fun _ => ⟨Fr.rf, rfl, h⟩, fun c => by cases c⟩
    rw [e_120_1, sh30 ν hi]
    show bnd 1 (ev (d + 3) 196 0 [.ref i] [] (fx ν)) _ = _
    rw [s_196 _ hi h1, bnd_1, app1, e_120_2, if_pos h3, e_120_6]
  | succ m ih =>
    intro k p ν hk g h hpn
    obtain ⟨h1, h2⟩ := g.2.1 i hi
    have h3 : ¬ Int32.ofNat (strN i) ≤ Int32.ofNat k := by rw [O_le (by omega) (by omega)]; omega
    obtain ⟨q1, q2, q3, q4⟩ := strB_ch (i := i) (j := k) hi (by omega)
    have hd : (chS i).drop k = (chS i).getD k 0 :: (chS i).drop (k + 1) := by
      rw [List.drop_eq_getElem_cons (by omega), List.getD_eq_getElem?_getD, List.getElem?_eq_getElem (by omega)]
      rfl
    obtain ⟨ν1, e1, w1, w2⟩ := m_119 (d + 2) g h hpn q2
    have e0 : ev (d + 4) 120 1 [.ref 46, .ref i, .int (Int32.ofNat k)] [] (fx ν) = ev (d + 4) 120 1 [.ref 46, .ref i, .int (Int32.ofNat (k + 1))] [] (fx ν1) := by
      rw [e_120_1, sh30 ν hi]
      show bnd 1 (ev (d + 3) 196 0 [.ref i] [] (fx ν)) _ = _
      rw [s_196 _ hi h1, bnd_1, app1, e_120_2, if_neg h3, e_120_3, sh30 ν hi]
      show bnd 1 (ev (d + 3) 197 0 [.ref i, .int (Int32.ofNat k)] [] (fx ν)) _ = _
      rw [s_197 d g.2.1 hi (by omega), bnd_1, app1, e_120_4, e1, bnd_0, app0, e_120_5, O_p1]
    rw [e0, hd]
    show ∃ ν', _ ∧ ((if ch p = (chS i).getD k 0 then pAll ch ((chS i).drop (k + 1)) (p + 1) else (false, p)).1 = true → Fr (PM A) QN ν ν' ∧ gI ν' 46 9 = gI ν 46 9 ∧ Md ν' A (if ch p = (chS i).getD k 0 then pAll ch ((chS i).drop (k + 1)) (p + 1) else (false, p)).2 us) ∧ ((if ch p = (chS i).getD k 0 then pAll ch ((chS i).drop (k + 1)) (p + 1) else (false, p)).1 = false → Wr ν ν' A (if ch p = (chS i).getD k 0 then pAll ch ((chS i).drop (k + 1)) (p + 1) else (false, p)).2)
    by_cases c : ch p = (chS i).getD k 0
    · obtain ⟨f1, i1, r1⟩ := w1 c
      have hp : p < n := g.1.2.1.lt c q2
      obtain ⟨ν2, e2, x1, x2⟩ := ih (k + 1) (p + 1) ν1 (by omega) (g.fr f1) r1 hp
      rw [if_pos c]
      exact ⟨ν2, e2, fun h => ⟨f1.tr (x1 h).1, (x1 h).2.1.trans i1, (x1 h).2.2⟩, fun h => (x2 h).pre f1 i1⟩
    · have w := w2 c
      have hS1 : Str ν1 := fun j hj => by
        refine ⟨by rw [w.1.rI _ _ (PM_ne (by omega))]; exact (g.2.1 j hj).1, fun x => by rw [w.1.rI _ _ (PM_ne (by omega))]; exact (g.2.1 j hj).2 x⟩
      obtain ⟨ν2, e2, x2⟩ := m_120w (A := A) d hi m (k + 1) ν1 (by omega) hS1 w.2.2.1 w.2.2.2
      rw [if_neg c]
      exact ⟨ν2, e2, fun h => (by cases h), fun _ => w.tr x2⟩
