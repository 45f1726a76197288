/-! THE TAPE read, as a function: whether, up to where, the tokens -/
abbrev PRs : Type := Bool × Nat × List Int32
def dg (c : Nat) : Bool := decide (48 ≤ c) && decide (c ≤ 57)
def pNum (ch : Nat → Nat) (p : Nat) : Option (Nat × Nat) := if dg (ch p) = true then (if ch p = 48 ∨ dg (ch (p + 1)) = false then some (ch p - 48, p + 1) else some ((ch p - 48) * 10 + (ch (p + 1) - 48), p + 2)) else none
def ixN : List Nat → Nat → Option Nat
  | [], _ => none
  | a :: l, c => if c = a then some 0 else (match ixN l c with
    | none => none
    | some i => some (i + 1))
theorem ixN_lt : ∀ {l : List Nat} {c i : Nat}, ixN l c = some i → i < l.length
  | [], _, _, h => by cases h
  | a :: l, c, i, h => by
    have h : (if c = a then some 0 else (match ixN l c with
      | none => none
      | some i => some (i + 1))) = some i := h
    by_cases e : c = a
    · rw [if_pos e] at h
      cases h
      simp
    · rw [if_neg e] at h
      cases hq : ixN l c with
      | none => rw [hq] at h; cases h
      | some k =>
        rw [hq] at h
        cases h
        have := ixN_lt hq
        simp
        omega
theorem ixN_mem : ∀ {l : List Nat} {c i : Nat}, ixN l c = some i → c ∈ l
  | [], _, _, h => by cases h
  | a :: l, c, i, h => by
    have h : (if c = a then some 0 else (match ixN l c with
      | none => none
      | some i => some (i + 1))) = some i := h
    by_cases e : c = a
    · rw [e]; simp
    · rw [if_neg e] at h
      cases hq : ixN l c with
      | none => rw [hq] at h; cases h
      | some k => exact List.mem_cons_of_mem _ (ixN_mem hq)
def pTst (nm : List Nat) (ch : Nat → Nat) (p : Nat) : PRs := match ixN nm (ch p) with
  | none => (false, p, [])
  | some a => match ixN [60, 61, 62] (ch (p + 1)) with
    | none => (false, p + 1, [])
    | some h => match pNum ch (p + 2) with
      | none => (false, p + 2, [])
      | some (v, q) => (true, q, [Int32.ofNat (a + 8 * h + 32 * v)])
def pAnd (one : Nat → PRs) (ch : Nat → Nat) : Nat → Nat → List Int32 → PRs
  | 0, p, ts => (true, p, ts)
  | f + 1, p, ts => if ch p = 38 then (match one (p + 1) with
    | (true, q, us) => pAnd one ch f q (ts ++ us ++ [6])
    | (false, q, _) => (false, q, [])) else (true, p, ts)
def pEv (one : Nat → PRs) (ch : Nat → Nat) (p : Nat) : PRs := match one p with
  | (true, q, us) => pAnd one ch 100 q us
  | (false, q, _) => (false, q, [])
def pOr (one : Nat → PRs) (ch : Nat → Nat) : Nat → Nat → List Int32 → PRs
  | 0, p, ts => if ch p = 124 then (true, p + 1, ts) else (true, p, ts)
  | f + 1, p, ts => if ch p = 124 then (match pEv one ch (p + 1) with
    | (true, q, us) => pOr one ch f q (ts ++ us ++ [7])
    | (false, q, _) => (false, q, [])) else (true, p, ts)
def pAny (one : Nat → PRs) (ch : Nat → Nat) (p : Nat) : PRs := match pEv one ch p with
  | (true, q, us) => pOr one ch 99 q us
  | (false, q, _) => (false, q, [])
def pOne (nm : List Nat) (ch : Nat → Nat) : Nat → Nat → PRs
  | 0, p => if ch p = 33 ∨ ch p = 40 then (false, p, []) else pTst nm ch p
  | o + 1, p => if ch p = 33 then (match pOne nm ch o (p + 1) with
      | (true, q, us) => (true, q, us ++ [5])
      | (false, q, _) => (false, q, []))
    else if ch p = 40 then (match pAny (pOne nm ch o) ch (p + 1) with
      | (true, q, us) => if ch q = 41 then (true, q + 1, us) else (false, q, [])
      | (false, q, _) => (false, q, []))
    else pTst nm ch p
/-- a text: n signs, each below 128; behind them 128 -/
def okTx (ch : Nat → Nat) (n : Nat) : Prop := n ≤ 100 ∧ ∀ p, (p < n → ch p < 128) ∧ (n ≤ p → ch p = 128)
theorem okTx.lt {ch : Nat → Nat} {n p c : Nat} (h : okTx ch n) (e : ch p = c) (hc : c < 128) : p < n := by
  apply Classical.byContradiction
  intro hn
  have := (h.2 p).2 (by omega)
  omega
theorem dg_iff (c : Nat) : dg c = true ↔ 48 ≤ c ∧ c ≤ 57 := by
  unfold dg
  rw [Bool.and_eq_true, decide_eq_true_iff, decide_eq_true_iff]
theorem pNum_ok {ch : Nat → Nat} {n p v q : Nat} (h : okTx ch n) (e : pNum ch p = some (v, q)) : v < 100 ∧ p < q ∧ q ≤ n := by
  unfold pNum at e
  by_cases c : dg (ch p) = true
  · rw [if_pos c] at e
    have c' := (dg_iff _).mp c
    have hp := h.lt (p := p) rfl (by omega)
    by_cases c2 : ch p = 48 ∨ dg (ch (p + 1)) = false
    · rw [if_pos c2] at e
      cases e
      omega
    · rw [if_neg c2] at e
      cases e
      have c3 : dg (ch (p + 1)) = true := by
        cases hq : dg (ch (p + 1)) with
        | true => rfl
        | false => exact absurd (Or.inr hq) c2
      have c4 := (dg_iff _).mp c3
      have := h.lt (p := p + 1) rfl (by omega)
      omega
  · rw [if_neg c] at e
    cases e
/-- what a reader keeps: tokens no more than signs; a place within the text; tokens as they must be -/
def Wfp (n : Nat) (B : Nat) (p : Nat) (r : PRs) : Prop := p ≤ r.2.1 ∧ r.2.1 ≤ n ∧ (r.1 = true → p + r.2.2.length + 2 ≤ r.2.1 ∧ okTs B r.2.2 ∧ ∀ hgt, hgt < 25 → ∃ k, hg r.2.2 hgt = some k)
