/-! the class's reader, sign by sign -/
def RP (q k : Nat) : Bool := Nat.beq q 41 || (Nat.beq q 39 && (Nat.beq k 3 || Nat.beq k 5))
def QN (_ : Nat) : Bool := false
theorem RP_ne {q k : Nat} (h : q ≠ 41 ∧ q ≠ 39) : RP q k = false := by
  unfold RP
  rw [beq_n h.1, beq_n h.2]
  rfl
def CxR (ν : MM) (n s : Nat) (ch : Nat → Nat) : Prop := (gI ν 29 1 = Int32.ofNat n ∧ okTx ch n ∧ ∀ p, p < n → gI ν 30 p = Int32.ofNat (ch p)) ∧ Str ν ∧ gR ν 39 4 = some s ∧ s < 13 ∧ 0 < strN s
def Rd (ν : MM) (p : Nat) (ts : List Int32) : Prop := gI ν 39 5 = Int32.ofNat p ∧ gI ν 39 3 = Int32.ofNat ts.length ∧ ts.length ≤ 100 ∧ ∀ j, (h : j < ts.length) → gI ν 41 j = ts[j]
/-- a place, and a number of tokens that is none too many -/
def Plc (ν : MM) (p : Nat) : Prop := gI ν 39 5 = Int32.ofNat p ∧ ∃ c, c ≤ 100 ∧ gI ν 39 3 = Int32.ofNat c
theorem Rd.plc {ν : MM} {p : Nat} {ts : List Int32} (h : Rd ν p ts) : Plc ν p := ⟨h.1, ts.length, h.2.2.1, h.2.1⟩
theorem CxR.fr {ν ν' : MM} {n s : Nat} {ch : Nat → Nat} (f : Fr RP QN ν ν') (g : CxR ν n s ch) : CxR ν' n s ch := by
  obtain ⟨⟨g1, g2, g3⟩, g4, g5, g6, g7⟩ := g
  refine ⟨⟨by rw [f.rI _ _ (RP_ne (by omega))]; exact g1, g2, fun p hp => by rw [f.rI _ _ (RP_ne (by omega))]; exact g3 p hp⟩, fun i hi => ?_, by rw [f.rR]; exact g5, g6, g7⟩
  refine ⟨by rw [f.rI _ _ (RP_ne (by omega))]; exact (g4 i hi).1, fun j => by rw [f.rI _ _ (RP_ne (by omega))]; exact (g4 i hi).2 j⟩
theorem CxR.ch {ν : MM} {n s : Nat} {ch : Nat → Nat} (g : CxR ν n s ch) (p : Nat) : ch p ≤ 128 := by
  by_cases h : p < n
  · have := (g.1.2.1.2 p).1 h; omega
  · have := (g.1.2.1.2 p).2 (by omega); omega
theorem s_30 (d : Nat) {ν : MM} {n s p : Nat} {ch : Nat → Nat} (g : CxR ν n s ch) (hp : gI ν 39 5 = Int32.ofNat p) (hpn : p ≤ n) : ev d 30 0 [.ref 39] [] (fx ν) = some (some (.int (Int32.ofNat (ch p))), fx ν) := by
  obtain ⟨⟨g1, g2, g3⟩, -⟩ := g
  have hn := g2.1
  have a1 : ¬ Int32.ofNat p < 0 := by
    show ¬ Int32.ofNat p < Int32.ofNat 0
    rw [O_lt (by omega) (by omega)]; omega
  rw [e_30_0, hp, if_neg a1, e_30_1, g1, hp]
  by_cases c : p < n
  · have a2 : ¬ Int32.ofNat n ≤ Int32.ofNat p := by rw [O_le (by omega) (by omega)]; omega
    have a3 : ¬ (100 : Int32) ≤ Int32.ofNat p := by
      show ¬ Int32.ofNat 100 ≤ Int32.ofNat p
      rw [O_le (by omega) (by omega)]; omega
    rw [if_neg a2, e_30_2, hp, if_neg a3, e_30_3, e_30_5, if_neg (by decide), e_30_6, hp, inb_O (by omega) (by omega), gd_t, tn_O (by omega), g3 p c, e_30_8]
  · have a2 : Int32.ofNat n ≤ Int32.ofNat p := by rw [O_le (by omega) (by omega)]; omega
    rw [if_pos a2, e_30_4, e_30_5, if_pos rfl, e_30_7, e_30_8, (g2.2 p).2 (by omega)]
    rfl
theorem Fr.rd {ν : MM} {p : Nat} (q : Nat) {ts : List Int32} (h : Rd ν p ts) : Fr RP QN ν (sI ν 39 5 (Int32.ofNat q)) ∧ Rd (sI ν 39 5 (Int32.ofNat q)) q ts := by
  obtain ⟨h1, h2, h3, h4⟩ := h
  exact ⟨Fr.wI _ rfl, by rw [gI_sI, if_pos ⟨rfl, rfl⟩], by rw [gI_sI, if_neg (by omega)]; exact h2, h3, fun j hj => by rw [gI_sI, if_neg (by omega)]; exact h4 j hj⟩
/-- reads on: to K when it is well, else the answer is 0 -/
def Cnt (E : Rs) (K : MM → Rs) (ν : MM) (ts : List Int32) (r : PRs) : Prop := ∃ ν', Fr RP QN ν ν' ∧ Plc ν' r.2.1 ∧ (r.1 = true → E = K ν' ∧ Rd ν' r.2.1 (ts ++ r.2.2)) ∧ (r.1 = false → E = some (some (.int 0), fx ν'))
def K1 (μ : MM) : Rs := some (some (.int 1), fx μ)
theorem O_p1 (p : Nat) : Int32.ofNat p + 1 = Int32.ofNat (p + 1) := (Int32.ofNat_add p 1).symm
theorem s_29 (d : Nat) {ν : MM} {n s p c : Nat} {ch : Nat → Nat} (g : CxR ν n s ch) {ts : List Int32} (h : Rd ν p ts) (hpn : p ≤ n) (hc : c ≤ 128) : ev (d + 1) 29 0 [.ref 39, .int (Int32.ofNat c)] [] (fx ν) = if ch p = c then some (some (.int 1), fx (sI ν 39 5 (Int32.ofNat (p + 1)))) else some (some (.int 0), fx ν) := by
  have hp := g.ch p
  rw [e_29_0, s_30 d g h.1 hpn, bnd_1, app1, e_29_1]
  by_cases e : ch p = c
  · have e' : Int32.ofNat (ch p) = Int32.ofNat c := by rw [e]
    rw [if_pos e, if_pos e', e_29_3, h.1, O_p1]
  · have e' : ¬ Int32.ofNat (ch p) = Int32.ofNat c := by rw [O_eq (by omega) (by omega)]; exact e
    rw [if_neg e, if_neg e', e_29_2]
theorem s_31 (d : Nat) {ν : MM} {p : Nat} {ts : List Int32} (h : Rd ν p ts) (hl : ts.length < 100) (t : Int32) : ∃ ν', ev d 31 0 [.ref 39, .int t] [] (fx ν) = some (none, fx ν') ∧ Fr RP QN ν ν' ∧ Rd ν' p (ts ++ [t]) := by
  obtain ⟨h1, h2, h3, h4⟩ := h
  have a1 : ¬ (100 : Int32) ≤ Int32.ofNat ts.length := by
    show ¬ Int32.ofNat 100 ≤ Int32.ofNat ts.length
    rw [O_le (by omega) (by omega)]; omega
  refine ⟨sI (sI ν 41 ts.length t) 39 3 (Int32.ofNat (ts.length + 1)), ?_, (Fr.wI _ (q := 41) rfl).tr (Fr.wI _ rfl), ?_, ?_, ?_, fun j hj => ?_⟩
  · rw [e_31_0, h2, if_neg a1, e_31_1, h2, inb_O hl (by omega), gd_t, tn_O (by omega), gI_sI, if_neg (by omega), h2, O_p1, e_31_2]
  · rw [gI_sI, if_neg (by omega), gI_sI, if_neg (by omega)]; exact h1
  · rw [gI_sI, if_pos ⟨rfl, rfl⟩, List.length_append, List.length_singleton]
  · rw [List.length_append, List.length_singleton]; omega
  · rw [gI_sI, if_neg (by omega), gI_sI]
    by_cases c : j = ts.length
    · rw [if_pos ⟨rfl, c⟩]
      subst c
      rw [List.getElem_append_right (Nat.le_refl _)]
      simp
    · rw [List.length_append, List.length_singleton] at hj
      have hj' : j < ts.length := by omega
      rw [if_neg (fun e => c e.2), h4 j hj', List.getElem_append_left hj']
theorem s_31b (d : Nat) {ν : MM} {p : Nat} (h : Plc ν p) (t : Int32) : ∃ ν', ev d 31 0 [.ref 39, .int t] [] (fx ν) = some (none, fx ν') ∧ Fr RP QN ν ν' ∧ Plc ν' p := by
  obtain ⟨h1, c, h2, h3⟩ := h
  by_cases e : c = 100
  · refine ⟨ν, ?_, Fr.rf, h1, c, h2, h3⟩
    rw [e_31_0, h3, e, if_pos (by decide), e_31_2]
  · have a1 : ¬ (100 : Int32) ≤ Int32.ofNat c := by
      show ¬ Int32.ofNat 100 ≤ Int32.ofNat c
      rw [O_le (by omega) (by omega)]; omega
    refine ⟨sI (sI ν 41 c t) 39 3 (Int32.ofNat (c + 1)), ?_, (Fr.wI _ (q := 41) rfl).tr (Fr.wI _ rfl), ?_, c + 1, by omega, ?_⟩
    · rw [e_31_0, h3, if_neg a1, e_31_1, h3, inb_O (by omega) (by omega), gd_t, tn_O (by omega), gI_sI, if_neg (by omega), h3, O_p1, e_31_2]
    · rw [gI_sI, if_neg (by omega), gI_sI, if_neg (by omega)]; exact h1
    · rw [gI_sI, if_pos ⟨rfl, rfl⟩]
theorem sub48 (c : Nat) (hc : c ≤ 128) : (¬ (Int32.ofNat c - 48) < 0 ∧ (Int32.ofNat c - 48) ≤ 9) ↔ dg c = true := by
  have q : ∀ c, c < 129 → ((¬ (Int32.ofNat c - 48) < 0 ∧ (Int32.ofNat c - 48) ≤ 9) ↔ dg c = true) := by decide +kernel
  exact q c (by omega)
theorem sub48v (c : Nat) (h : dg c = true) : Int32.ofNat c - 48 = Int32.ofNat (c - 48) ∧ c - 48 < 10 ∧ c < 58 := by
  have h' := (dg_iff c).mp h
  have q : ∀ c, c < 58 → 48 ≤ c → Int32.ofNat c - 48 = Int32.ofNat (c - 48) ∧ c - 48 < 10 ∧ c < 58 := by decide +kernel
  exact q c (by omega) h'.1
theorem s_27 (d : Nat) {ν : MM} {n s p : Nat} {ch : Nat → Nat} (g : CxR ν n s ch) {ts : List Int32} (h : Rd ν p ts) (hpn : p ≤ n) : (pNum ch p = none → ev (d + 1) 27 0 [.ref 39] [] (fx ν) = some (some (.int (-1)), fx ν)) ∧ ∀ v q, pNum ch p = some (v, q) → ∃ ν', ev (d + 1) 27 0 [.ref 39] [] (fx ν) = some (some (.int (Int32.ofNat v)), fx ν') ∧ Fr RP QN ν ν' ∧ Rd ν' q ts := by
  have hp := g.ch p
  have e0 : ev (d + 1) 27 0 [.ref 39] [] (fx ν) = ev (d + 1) 27 1 [.ref 39] [.int (Int32.ofNat (ch p))] (fx ν) := by
    rw [e_27_0, s_30 d g h.1 hpn, bnd_1, app1]
  by_cases c : dg (ch p) = true
  · have hpl : p < n := g.1.2.1.lt (p := p) rfl (by have := (dg_iff _).mp c; omega)
    obtain ⟨c1, c2⟩ := (sub48 _ hp).mpr c
    obtain ⟨v1, v2, v3⟩ := sub48v _ c
    rw [v1] at c1 c2
    obtain ⟨f1, r1⟩ := Fr.rd (p + 1) h
    have g1 := g.fr f1
    have hp1 := g.ch (p + 1)
    have e1 : ev (d + 1) 27 0 [.ref 39] [] (fx ν) = ev (d + 1) 27 5 [.ref 39, .int (Int32.ofNat (ch p - 48))] [.int (Int32.ofNat (ch (p + 1)))] (fx (sI ν 39 5 (Int32.ofNat (p + 1)))) := by
      rw [e0, e_27_1, v1, if_neg c1, e_27_2, if_pos c2, e_27_4, h.1, O_p1, s_30 d g1 r1.1 hpl, bnd_1, app1]
    unfold pNum
    rw [if_pos c]
    by_cases c2 : ch p = 48 ∨ dg (ch (p + 1)) = false
    · rw [if_pos c2]
      refine ⟨fun e => (by cases e), fun v q e => ?_⟩
      cases e
      refine ⟨_, ?_, f1, r1⟩
      rw [e1, e_27_5]
      by_cases z : ch p = 48
      · have z' : Int32.ofNat (ch p - 48) = 0 := by rw [z]; rfl
        rw [if_pos z', e_27_8]
      · have z' : ¬ Int32.ofNat (ch p - 48) = 0 := by
          have := (dg_iff _).mp c
          show ¬ Int32.ofNat (ch p - 48) = Int32.ofNat 0
          rw [O_eq (by omega) (by omega)]; omega
        have c3 : ¬ dg (ch (p + 1)) = true := by
          rcases c2 with c2 | c2
          · exact absurd c2 z
          · rw [c2]; decide
        have c4 := fun hh => c3 ((sub48 _ hp1).mp hh)
        rw [if_neg z', e_27_6]
        by_cases y : Int32.ofNat (ch (p + 1)) - 48 < 0
        · rw [if_pos y, e_27_8]
        · rw [if_neg y, e_27_7, if_neg (fun y2 => c4 ⟨y, y2⟩), e_27_8]
    · rw [if_neg c2]
      refine ⟨fun e => (by cases e), fun v q e => ?_⟩
      cases e
      have z : ¬ ch p = 48 := fun z => c2 (Or.inl z)
      have c3 : dg (ch (p + 1)) = true := by
        cases hq : dg (ch (p + 1)) with
        | true => rfl
        | false => exact absurd (Or.inr hq) c2
      have z' : ¬ Int32.ofNat (ch p - 48) = 0 := by
        have := (dg_iff _).mp c
        show ¬ Int32.ofNat (ch p - 48) = Int32.ofNat 0
        rw [O_eq (by omega) (by omega)]; omega
      obtain ⟨c5, c6⟩ := (sub48 _ hp1).mpr c3
      obtain ⟨w1, w2, w3⟩ := sub48v _ c3
      rw [w1] at c5 c6
      have hpl2 : p + 1 < n := g.1.2.1.lt (p := p + 1) rfl (by omega)
      obtain ⟨f2, r2⟩ := Fr.rd (p + 2) r1
      refine ⟨_, ?_, f1.tr f2, r2⟩
      have m10 : ∀ a, a < 10 → ∀ b, b < 10 → Int32.ofNat a * 10 + Int32.ofNat b = Int32.ofNat (a * 10 + b) := by decide +kernel
      rw [e1, e_27_5, if_neg z', e_27_6, w1, if_neg c5, e_27_7, if_pos c6, e_27_9, m10 _ v2 _ w2, r1.1, O_p1]
  · unfold pNum
    rw [if_neg c]
    refine ⟨fun _ => ?_, fun v q e => by cases e⟩
    rw [e0, e_27_1]
    have c4 := fun hh => c ((sub48 _ hp).mp hh)
    by_cases y : Int32.ofNat (ch p) - 48 < 0
    · rw [if_pos y, e_27_3]
    · rw [if_neg y, e_27_2, if_neg (fun y2 => c4 ⟨y, y2⟩), e_27_3]
