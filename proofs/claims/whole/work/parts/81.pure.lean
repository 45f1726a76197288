/-! the reader as a function: what it comes to -/
theorem hg_app : ∀ {a b : List Int32} {h k : Nat}, hg a h = some k → hg (a ++ b) h = hg b k
  | [], b, h, k, e => by
    have e : some h = some k := e
    cases e
    rfl
  | t :: a, b, h, k, e => by
    have e : (if t &&& 7 = 5 then (if 1 ≤ h then hg a h else none) else if t &&& 7 = 6 then (if 2 ≤ h then hg a (h - 1) else none) else if t &&& 7 = 7 then (if 2 ≤ h then hg a (h - 1) else none) else (if h < 30 then hg a (h + 1) else none)) = some k := e
    show (if t &&& 7 = 5 then (if 1 ≤ h then hg (a ++ b) h else none) else if t &&& 7 = 6 then (if 2 ≤ h then hg (a ++ b) (h - 1) else none) else if t &&& 7 = 7 then (if 2 ≤ h then hg (a ++ b) (h - 1) else none) else (if h < 30 then hg (a ++ b) (h + 1) else none)) = hg b k
    by_cases c5 : t &&& 7 = 5
    · rw [if_pos c5] at e ⊢
      by_cases ch : 1 ≤ h
      · rw [if_pos ch] at e ⊢
        exact hg_app e
      · rw [if_neg ch] at e; cases e
    · rw [if_neg c5] at e ⊢
      by_cases c6 : t &&& 7 = 6
      · rw [if_pos c6] at e ⊢
        by_cases ch : 2 ≤ h
        · rw [if_pos ch] at e ⊢
          exact hg_app e
        · rw [if_neg ch] at e; cases e
      · rw [if_neg c6] at e ⊢
        by_cases c7 : t &&& 7 = 7
        · rw [if_pos c7] at e ⊢
          by_cases ch : 2 ≤ h
          · rw [if_pos ch] at e ⊢
            exact hg_app e
          · rw [if_neg ch] at e; cases e
        · rw [if_neg c7] at e ⊢
          by_cases ch : h < 30
          · rw [if_pos ch] at e ⊢
            exact hg_app e
          · rw [if_neg ch] at e; cases e
theorem hg_6 {h : Nat} : hg [6] (h + 2) = some (h + 1) := by
  show (if (6 : Int32) &&& 7 = 5 then (if 1 ≤ h + 2 then some (h + 2) else none) else if (6 : Int32) &&& 7 = 6 then (if 2 ≤ h + 2 then some (h + 2 - 1) else none) else _) = _
  rw [if_neg (by decide), if_pos (by decide), if_pos (by omega)]
  rfl
theorem hg_7 {h : Nat} : hg [7] (h + 2) = some (h + 1) := by
  show (if (7 : Int32) &&& 7 = 5 then (if 1 ≤ h + 2 then some (h + 2) else none) else if (7 : Int32) &&& 7 = 6 then (if 2 ≤ h + 2 then some (h + 2 - 1) else none) else if (7 : Int32) &&& 7 = 7 then (if 2 ≤ h + 2 then some (h + 2 - 1) else none) else _) = _
  rw [if_neg (by decide), if_neg (by decide), if_pos (by decide), if_pos (by omega)]
  rfl
theorem hg_5 {h : Nat} : hg [5] (h + 1) = some (h + 1) := by
  show (if (5 : Int32) &&& 7 = 5 then (if 1 ≤ h + 1 then some (h + 1) else none) else _) = _
  rw [if_pos (by decide), if_pos (by omega)]
theorem okTs_app {B : Nat} {a b : List Int32} (ha : okTs B a) (hb : okTs B b) : okTs B (a ++ b) := fun t ht => (List.mem_append.mp ht).elim (ha t) (hb t)
theorem okT_sm : ¬ okT 5 ∧ ¬ okT 6 ∧ ¬ okT 7 := by
  refine ⟨?_, ?_, ?_⟩ <;> rintro ⟨a, h, n, ha, hh, hn, e⟩
  · have e : Int32.ofNat 5 = Int32.ofNat (a + 8 * h + 32 * n) := e
    rw [O_eq (by omega) (by omega)] at e
    omega
  · have e : Int32.ofNat 6 = Int32.ofNat (a + 8 * h + 32 * n) := e
    rw [O_eq (by omega) (by omega)] at e
    omega
  · have e : Int32.ofNat 7 = Int32.ofNat (a + 8 * h + 32 * n) := e
    rw [O_eq (by omega) (by omega)] at e
    omega
theorem okTs_1 {B : Nat} {t : Int32} (h : okK t) (g : okT t → ∃ a, a < B ∧ t &&& 7 = Int32.ofNat a) : okTs B [t] := fun x hx => by
  rw [List.mem_singleton.mp hx]
  exact ⟨h, g⟩
theorem okTs_5 {B : Nat} : okTs B [5] := okTs_1 (Or.inl rfl) fun h => absurd h okT_sm.1
theorem okTs_6 {B : Nat} : okTs B [6] := okTs_1 (Or.inr (Or.inl rfl)) fun h => absurd h okT_sm.2.1
theorem okTs_7 {B : Nat} : okTs B [7] := okTs_1 (Or.inr (Or.inr (Or.inl rfl))) fun h => absurd h okT_sm.2.2
/-- a reading from p on came well to its end, or did not -/
def Gd (n B m p : Nat) (r : PRs) : Prop := (p ≤ r.2.1 ∧ r.2.1 ≤ n) ∧ (r.1 = true → p + r.2.2.length + 2 ≤ r.2.1 ∧ okTs B r.2.2 ∧ ∀ h, h + m < 30 → hg r.2.2 h = some (h + 1))
theorem Gd.no {n B m p q : Nat} {ts : List Int32} (h : p ≤ q) (hn : q ≤ n) : Gd n B m p (false, q, ts) := ⟨⟨h, hn⟩, fun e => by cases e⟩
theorem pTst_gd {nm : List Nat} {ch : Nat → Nat} {n p : Nat} (h : okTx ch n) (hn : ∀ c, c ∈ nm → c < 128) (hB : nm.length ≤ 5) (hp : p ≤ n) : Gd n nm.length 0 p (pTst nm ch p) := by
  unfold pTst
  cases e1 : ixN nm (ch p) with
  | none => exact Gd.no (Nat.le_refl _) hp
  | some a =>
    have h1 : p < n := h.lt rfl (hn _ (ixN_mem e1))
    have ha := ixN_lt e1
    show Gd n nm.length 0 p (match ixN [60, 61, 62] (ch (p + 1)) with
      | none => (false, p + 1, [])
      | some h => match pNum ch (p + 2) with
        | none => (false, p + 2, [])
        | some (v, q) => (true, q, [Int32.ofNat (a + 8 * h + 32 * v)]))
    cases e2 : ixN [60, 61, 62] (ch (p + 1)) with
    | none => exact Gd.no (by omega) h1
    | some b =>
      have hb : b < 3 := ixN_lt e2
      have h2 : p + 1 < n := by
        refine h.lt rfl ?_
        have := ixN_mem e2
        simp at this
        omega
      show Gd n nm.length 0 p (match pNum ch (p + 2) with
        | none => (false, p + 2, [])
        | some (v, q) => (true, q, [Int32.ofNat (a + 8 * b + 32 * v)]))
      cases e3 : pNum ch (p + 2) with
      | none => exact Gd.no (by omega) h2
      | some vq =>
        obtain ⟨v, q⟩ := vq
        obtain ⟨h3, h4, h5⟩ := pNum_ok h e3
        have q7 : ∀ a, a < 5 → ∀ b, b < 3 → ∀ v, v < 100 → Int32.ofNat (a + 8 * b + 32 * v) &&& 7 = Int32.ofNat a := by decide +kernel
        have h7 := q7 a (by omega) b hb v h3
        refine ⟨⟨by show p ≤ q; omega, h5⟩, fun _ => ⟨by show p + 1 + 2 ≤ q; omega, okTs_1 (Or.inr (Or.inr (Or.inr ⟨a, b, v, by omega, hb, h3, rfl⟩))) fun _ => ⟨a, ha, h7⟩, fun hh hl => ?_⟩⟩
        show hg [Int32.ofNat (a + 8 * b + 32 * v)] hh = some (hh + 1)
        have n5 : ¬ Int32.ofNat a = 5 := by
          show ¬ Int32.ofNat a = Int32.ofNat 5
          rw [O_eq (by omega) (by omega)]; omega
        have n6 : ¬ Int32.ofNat a = 6 := by
          show ¬ Int32.ofNat a = Int32.ofNat 6
          rw [O_eq (by omega) (by omega)]; omega
        have n7 : ¬ Int32.ofNat a = 7 := by
          show ¬ Int32.ofNat a = Int32.ofNat 7
          rw [O_eq (by omega) (by omega)]; omega
        rw [hg, h7, if_neg n5, if_neg n6, if_neg n7, if_pos (by omega)]
        rfl
theorem pAnd_gd {one : Nat → PRs} {ch : Nat → Nat} {n B m : Nat} (h : okTx ch n) (ho : ∀ p, p ≤ n → Gd n B m p (one p)) (p0 : Nat) : ∀ (f p : Nat) (ts : List Int32), Gd n B (m + 1) p0 (true, p, ts) → Gd n B (m + 1) p0 (pAnd one ch f p ts)
  | 0, p, ts, g => g
  | f + 1, p, ts, g => by
    show Gd n B (m + 1) p0 (if ch p = 38 then (match one (p + 1) with
      | (true, q, us) => pAnd one ch f q (ts ++ us ++ [6])
      | (false, q, _) => (false, q, [])) else (true, p, ts))
    by_cases c : ch p = 38
    · rw [if_pos c]
      have hp : p < n := h.lt c (by decide)
      have g1 := ho (p + 1) hp
      obtain ⟨⟨a1, a2⟩, a3⟩ := g
      obtain ⟨a4, a5, a6⟩ := a3 rfl
      revert g1
      obtain ⟨b, q, us⟩ := one (p + 1)
      intro g1
      obtain ⟨⟨b1, b2⟩, b3⟩ := g1
      cases b with
      | false => exact Gd.no (by show p0 ≤ q; have b1 : p + 1 ≤ q := b1; have a1 : p0 ≤ p := a1; omega) b2
      | true =>
        obtain ⟨b4, b5, b6⟩ := b3 rfl
        refine pAnd_gd h ho p0 f q (ts ++ us ++ [6]) ⟨⟨?_, b2⟩, fun _ => ⟨?_, okTs_app (okTs_app a5 b5) okTs_6, fun hh hl => ?_⟩⟩
        · show p0 ≤ q
          have b1 : p + 1 ≤ q := b1
          have a1 : p0 ≤ p := a1
          omega
        · show p0 + (ts ++ us ++ [6]).length + 2 ≤ q
          have b4 : p + 1 + us.length + 2 ≤ q := b4
          have a4 : p0 + ts.length + 2 ≤ p := a4
          rw [List.length_append, List.length_append, List.length_singleton]
          omega
        · show hg (ts ++ us ++ [6]) hh = some (hh + 1)
          have e1 : hg ts hh = some (hh + 1) := a6 hh hl
          have e2 : hg us (hh + 1) = some (hh + 1 + 1) := b6 (hh + 1) (by omega)
          rw [List.append_assoc, hg_app e1, hg_app e2, hg_6]
    · rw [if_neg c]
      exact g
theorem Gd.mono {n B m m' p : Nat} {r : PRs} (g : Gd n B m p r) (h : m ≤ m') : Gd n B m' p r := ⟨g.1, fun e => ⟨(g.2 e).1, (g.2 e).2.1, fun hh hl => (g.2 e).2.2 hh (by omega)⟩⟩
theorem pEv_gd {one : Nat → PRs} {ch : Nat → Nat} {n B m : Nat} (h : okTx ch n) (ho : ∀ p, p ≤ n → Gd n B m p (one p)) (p : Nat) (hp : p ≤ n) : Gd n B (m + 1) p (pEv one ch p) := by
  unfold pEv
  have g := ho p hp
  revert g
  obtain ⟨b, q, us⟩ := one p
  intro g
  cases b with
  | false => exact Gd.no g.1.1 g.1.2
  | true => exact pAnd_gd h ho p 100 q us (g.mono (by omega))
theorem pOr_gd {one : Nat → PRs} {ch : Nat → Nat} {n B m : Nat} (h : okTx ch n) (ho : ∀ p, p ≤ n → Gd n B m p (one p)) (p0 : Nat) : ∀ (f p : Nat) (ts : List Int32), Gd n B (m + 2) p0 (true, p, ts) → Gd n B (m + 2) p0 (pOr one ch f p ts)
  | 0, p, ts, g => by
    show Gd n B (m + 2) p0 (if ch p = 124 then (true, p + 1, ts) else (true, p, ts))
    by_cases c : ch p = 124
    · rw [if_pos c]
      have hp : p < n := h.lt c (by decide)
      obtain ⟨⟨a1, a2⟩, a3⟩ := g
      obtain ⟨a4, a5, a6⟩ := a3 rfl
      exact ⟨⟨Nat.le_trans a1 (Nat.le_succ p), hp⟩, fun _ => ⟨Nat.le_trans a4 (Nat.le_succ p), a5, a6⟩⟩
    · rw [if_neg c]
      exact g
  | f + 1, p, ts, g => by
    show Gd n B (m + 2) p0 (if ch p = 124 then (match pEv one ch (p + 1) with
      | (true, q, us) => pOr one ch f q (ts ++ us ++ [7])
      | (false, q, _) => (false, q, [])) else (true, p, ts))
    by_cases c : ch p = 124
    · rw [if_pos c]
      have hp : p < n := h.lt c (by decide)
      have g1 := pEv_gd h ho (p + 1) hp
      obtain ⟨⟨a1, a2⟩, a3⟩ := g
      obtain ⟨a4, a5, a6⟩ := a3 rfl
      revert g1
      obtain ⟨b, q, us⟩ := pEv one ch (p + 1)
      intro g1
      obtain ⟨⟨b1, b2⟩, b3⟩ := g1
      cases b with
      | false => exact Gd.no (by show p0 ≤ q; have b1 : p + 1 ≤ q := b1; have a1 : p0 ≤ p := a1; omega) b2
      | true =>
        obtain ⟨b4, b5, b6⟩ := b3 rfl
        refine pOr_gd h ho p0 f q (ts ++ us ++ [7]) ⟨⟨?_, b2⟩, fun _ => ⟨?_, okTs_app (okTs_app a5 b5) okTs_7, fun hh hl => ?_⟩⟩
        · show p0 ≤ q
          have b1 : p + 1 ≤ q := b1
          have a1 : p0 ≤ p := a1
          omega
        · show p0 + (ts ++ us ++ [7]).length + 2 ≤ q
          have b4 : p + 1 + us.length + 2 ≤ q := b4
          have a4 : p0 + ts.length + 2 ≤ p := a4
          rw [List.length_append, List.length_append, List.length_singleton]
          omega
        · show hg (ts ++ us ++ [7]) hh = some (hh + 1)
          have e1 : hg ts hh = some (hh + 1) := a6 hh hl
          have e2 : hg us (hh + 1) = some (hh + 1 + 1) := b6 (hh + 1) (by omega)
          rw [List.append_assoc, hg_app e1, hg_app e2, hg_7]
    · rw [if_neg c]
      exact g
theorem pAny_gd {one : Nat → PRs} {ch : Nat → Nat} {n B m : Nat} (h : okTx ch n) (ho : ∀ p, p ≤ n → Gd n B m p (one p)) (p : Nat) (hp : p ≤ n) : Gd n B (m + 2) p (pAny one ch p) := by
  unfold pAny
  have g := pEv_gd h ho p hp
  revert g
  obtain ⟨b, q, us⟩ := pEv one ch p
  intro g
  cases b with
  | false => exact Gd.no g.1.1 g.1.2
  | true => exact pOr_gd h ho p 99 q us (g.mono (by omega))
theorem pOne_gd {nm : List Nat} {ch : Nat → Nat} {n : Nat} (h : okTx ch n) (hn : ∀ c, c ∈ nm → c < 128) (hB : nm.length ≤ 5) : ∀ (o p : Nat), p ≤ n → Gd n nm.length (2 * o) p (pOne nm ch o p)
  | 0, p, hp => by
    show Gd n nm.length 0 p (if ch p = 33 ∨ ch p = 40 then (false, p, []) else pTst nm ch p)
    by_cases c : ch p = 33 ∨ ch p = 40
    · rw [if_pos c]
      exact Gd.no (Nat.le_refl _) hp
    · rw [if_neg c]
      exact pTst_gd h hn hB hp
  | o + 1, p, hp => by
    show Gd n nm.length (2 * (o + 1)) p (if ch p = 33 then (match pOne nm ch o (p + 1) with
      | (true, q, us) => (true, q, us ++ [5])
      | (false, q, _) => (false, q, []))
    else if ch p = 40 then (match pAny (pOne nm ch o) ch (p + 1) with
      | (true, q, us) => if ch q = 41 then (true, q + 1, us) else (false, q, [])
      | (false, q, _) => (false, q, []))
    else pTst nm ch p)
    by_cases c : ch p = 33
    · rw [if_pos c]
      have hp1 : p < n := h.lt c (by decide)
      have g1 := pOne_gd h hn hB o (p + 1) hp1
      revert g1
      obtain ⟨b, q, us⟩ := pOne nm ch o (p + 1)
      intro g1
      obtain ⟨⟨b1, b2⟩, b3⟩ := g1
      have b1 : p + 1 ≤ q := b1
      cases b with
      | false => exact Gd.no (by omega) b2
      | true =>
        obtain ⟨b4, b5, b6⟩ := b3 rfl
        have b4 : p + 1 + us.length + 2 ≤ q := b4
        refine ⟨⟨by show p ≤ q; omega, b2⟩, fun _ => ⟨?_, okTs_app b5 okTs_5, fun hh hl => ?_⟩⟩
        · show p + (us ++ [5]).length + 2 ≤ q
          rw [List.length_append, List.length_singleton]
          omega
        · show hg (us ++ [5]) hh = some (hh + 1)
          have e1 : hg us hh = some (hh + 1) := b6 hh (by omega)
          rw [hg_app e1, hg_5]
    · rw [if_neg c]
      by_cases c4 : ch p = 40
      · rw [if_pos c4]
        have hp1 : p < n := h.lt c4 (by decide)
        have g1 := pAny_gd h (pOne_gd h hn hB o) (p + 1) hp1
        revert g1
        obtain ⟨b, q, us⟩ := pAny (pOne nm ch o) ch (p + 1)
        intro g1
        obtain ⟨⟨b1, b2⟩, b3⟩ := g1
        have b1 : p + 1 ≤ q := b1
        cases b with
        | false => exact Gd.no (by omega) b2
        | true =>
          obtain ⟨b4, b5, b6⟩ := b3 rfl
          have b4 : p + 1 + us.length + 2 ≤ q := b4
          show Gd n nm.length (2 * (o + 1)) p (if ch q = 41 then (true, q + 1, us) else (false, q, []))
          by_cases c41 : ch q = 41
          · rw [if_pos c41]
            have hq : q < n := h.lt c41 (by decide)
            exact ⟨⟨by show p ≤ q + 1; omega, hq⟩, fun _ => ⟨by show p + us.length + 2 ≤ q + 1; omega, b5, fun hh hl => b6 hh (by omega)⟩⟩
          · rw [if_neg c41]
            exact Gd.no (by omega) b2
      · rw [if_neg c4]
        exact (pTst_gd h hn hB hp).mono (by omega)
