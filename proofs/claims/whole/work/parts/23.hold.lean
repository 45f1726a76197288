/-! A CLAUSE's E: its tokens gone through with a stack; the class's bits of one number -/
def tst (x tok : Int32) : Bool := if tok >>> 3 &&& 3 = 0 then decide (x < tok >>> 5) else if tok >>> 3 &&& 3 = 1 then decide (x = tok >>> 5) else decide (tok >>> 5 < x)
/-- the value of a TEST's name, out of facts -/
def fct (facts tok : Int32) : Int32 := facts >>> ((4 * (tok &&& 7)) &&& 31) &&& 15
def stp (f : Int32 → Bool) (s : List Bool) (tok : Int32) : List Bool :=
  if tok &&& 7 = 5 then (match s with
    | a :: r => (!a) :: r
    | [] => [])
  else if tok &&& 7 = 6 then (match s with
    | a :: b :: r => (b && a) :: r
    | _ => [])
  else if tok &&& 7 = 7 then (match s with
    | a :: b :: r => (b || a) :: r
    | _ => [])
  else f tok :: s
/-- how many truths wait, after tokens; none: too few or too many on the way -/
def hg : List Int32 → Nat → Option Nat
  | [], h => some h
  | t :: ts, h => if t &&& 7 = 5 then (if 1 ≤ h then hg ts h else none) else if t &&& 7 = 6 then (if 2 ≤ h then hg ts (h - 1) else none) else if t &&& 7 = 7 then (if 2 ≤ h then hg ts (h - 1) else none) else (if h < 30 then hg ts (h + 1) else none)
def hld (f : Int32 → Bool) (ts : List Int32) : Bool := (ts.foldl (stp f) []).headD false
theorem ite_01 (c : Prop) [Decidable c] (μ : MM) : (if c then some (some (Value.int 0), μ) else some (some (Value.int 1), μ) : Rs) = some (some (.int (bI (!decide c))), μ) := by
  by_cases h : c
  · rw [if_pos h, decide_eq_true h]; rfl
  · rw [if_neg h, decide_eq_false h]; rfl
theorem not_le_d (x y : Int32) : (!decide (x ≤ y)) = decide (y < x) := by
  by_cases h : x ≤ y
  · rw [decide_eq_true h, decide_eq_false (Int32.not_lt.mpr h)]; rfl
  · rw [decide_eq_false h, decide_eq_true (Int32.not_le.mp h)]; rfl
theorem s_13 (d : Nat) (tok facts : Int32) (ν : MM) : ev d 13 0 [.int tok, .int facts] [] (fx ν) = some (some (.int (bI (tst (fct facts tok) tok))), fx ν) := by
  have n3 : (3 : Int32) &&& 31 = 3 := rfl
  have n5 : (5 : Int32) &&& 31 = 5 := rfl
  rw [e_13_0, e_13_1, e_13_5, e_13_9, e_13_3, e_13_2, e_13_6, e_13_7, e_13_11, e_13_10, e_13_4, e_13_4, e_13_8, e_13_8, e_13_12, e_13_12, b01_0, b01_1, gd_t, gd_t, ite_01, ite_bI, ite_01, not_le_d, not_le_d, n3, n5]
  unfold tst fct
  by_cases c0 : tok >>> 3 &&& 3 = 0
  · rw [if_pos c0, if_pos c0]
  · rw [if_neg c0, if_neg c0]
    by_cases c1 : tok >>> 3 &&& 3 = 1
    · rw [if_pos c1, if_pos c1]
    · rw [if_neg c1, if_neg c1]
/-! bits -/
def gb (x : Int32) (i : Nat) : Bool := x.toBitVec.getLsbD i
theorem gb_xor (x y : Int32) (i : Nat) : gb (x ^^^ y) i = (gb x i ^^ gb y i) := BitVec.getLsbD_xor
theorem gb_and (x y : Int32) (i : Nat) : gb (x &&& y) i = (gb x i && gb y i) := BitVec.getLsbD_and
theorem gb_or (x y : Int32) (i : Nat) : gb (x ||| y) i = (gb x i || gb y i) := BitVec.getLsbD_or
theorem gb_one (i : Nat) : gb 1 i = decide (i = 0) := by
  show (1#32).getLsbD i = _
  rw [BitVec.getLsbD_one]
  rfl
theorem gb_m2 : ∀ i, i < 32 → gb (-2) i = !decide (i = 0) := by decide
theorem gb_shr (x : Int32) {i : Nat} (h : i + 1 < 32) : gb (x >>> 1) i = gb x (i + 1) := by
  have e : (x >>> 1).toBitVec = x.toBitVec.sshiftRight 1 := rfl
  unfold gb
  rw [e, BitVec.getLsbD_sshiftRight, decide_eq_false (by omega), if_pos (by omega), Nat.add_comm]
  rfl
theorem gb_shl0 (x : Int32) : gb (x <<< 1) 0 = false := by
  have e : (x <<< 1).toBitVec = x.toBitVec <<< 1 := rfl
  unfold gb
  rw [e, BitVec.getLsbD_shiftLeft]
  rfl
theorem gb_shl (x : Int32) {i : Nat} (h : i + 1 < 32) : gb (x <<< 1) (i + 1) = gb x i := by
  have e : (x <<< 1).toBitVec = x.toBitVec <<< 1 := rfl
  unfold gb
  rw [e, BitVec.getLsbD_shiftLeft, decide_eq_true h, decide_eq_false (by omega)]
  rfl
theorem gb_and1 (x : Int32) : (x &&& 1 = 1) = (gb x 0 = true) := by
  apply propext
  constructor
  · intro h
    have := congrArg (fun y => gb y 0) h
    simp only [gb_and, gb_one, decide_true, Bool.and_true] at this
    exact this
  · intro h
    apply Int32.toBitVec.inj
    apply BitVec.eq_of_getLsbD_eq
    intro i hi
    show gb (x &&& 1) i = gb 1 i
    rw [gb_and, gb_one]
    by_cases c : i = 0
    · rw [c, h]; rfl
    · rw [decide_eq_false c, Bool.and_false]
def BR (x : Int32) (s : List Bool) : Prop := ∀ i, (h : i < s.length) → gb x i = s[i]
theorem BR_not {x : Int32} {a : Bool} {r : List Bool} (h : BR x (a :: r)) : BR (x ^^^ 1) ((!a) :: r) := by
  intro i hi
  rw [gb_xor, gb_one]
  cases i with
  | zero => rw [h 0 (by simp)]; cases a <;> rfl
  | succ i => rw [h (i + 1) hi, decide_eq_false (by omega), Bool.xor_false]; rfl
theorem BR_and {x : Int32} {a b : Bool} {r : List Bool} (h : BR x (a :: b :: r)) (hl : r.length < 29) : BR (x >>> 1 &&& (x ||| -2)) ((b && a) :: r) := by
  intro i hi
  have hi' : i < r.length + 1 := hi
  rw [gb_and, gb_or, gb_m2 i (by omega), gb_shr _ (by omega), h (i + 1) (by simp; omega)]
  cases i with
  | zero => rw [h 0 (by simp)]; cases a <;> rfl
  | succ i => rw [decide_eq_false (by omega), Bool.not_false, Bool.or_true, Bool.and_true]; rfl
theorem BR_or {x : Int32} {a b : Bool} {r : List Bool} (h : BR x (a :: b :: r)) (hl : r.length < 29) : BR (x >>> 1 ||| (x &&& 1)) ((b || a) :: r) := by
  intro i hi
  have hi' : i < r.length + 1 := hi
  rw [gb_or, gb_and, gb_one, gb_shr _ (by omega), h (i + 1) (by simp; omega)]
  cases i with
  | zero => rw [h 0 (by simp)]; cases a <;> rfl
  | succ i => rw [decide_eq_false (by omega), Bool.and_false, Bool.or_false]; rfl
theorem gb_bI (b : Bool) (i : Nat) : gb (bI b) i = (b && decide (i = 0)) := by
  cases b with
  | true => rw [Bool.true_and]; exact gb_one i
  | false =>
    rw [Bool.false_and]
    show (0#32).getLsbD i = false
    exact BitVec.getLsbD_zero
theorem BR_push {x : Int32} {b : Bool} {s : List Bool} (h : BR x s) (hl : s.length < 30) : BR (x <<< 1 ||| bI b) (b :: s) := by
  intro i hi
  have hi' : i < s.length + 1 := hi
  rw [gb_or, gb_bI]
  cases i with
  | zero => rw [gb_shl0]; cases b <;> rfl
  | succ i => rw [gb_shl _ (by omega), decide_eq_false (by omega), Bool.and_false, Bool.or_false, h i (by omega)]; rfl
theorem O_succ (i : Nat) : Int32.ofNat i + 1 = Int32.ofNat (i + 1) := (Int32.ofNat_add i 1).symm
/-- the loop of holds -/
theorem l_11 (d : Nat) (facts : Int32) (A n : Nat) (ν : MM) (hA : cin [20, 32] (shp (fx ν) A) = true) (hn : aln (fx ν) A = n) (hn2 : n ≤ 1000) : ∀ (ts : List Int32) (i : Nat) (x : Int32) (s : List Bool) (h' : Nat), i + ts.length = n → (∀ j, (h : j < ts.length) → gI ν A (i + j) = ts[j]) → hg ts s.length = some h' → 1 ≤ h' → s.length ≤ 30 → BR x s → ev (d + 1) 11 1 [.int facts, .int x, .ref A, .int (Int32.ofNat n), .int (Int32.ofNat i)] [] (fx ν) = some (some (.int (bI ((ts.foldl (stp fun t => tst (fct facts t) t) s).headD false))), fx ν)
  | [], i, x, s, h', hi, _, hh, h1, _, hb => by
    have hs : s.length = h' := Option.some.inj hh
    cases s with
    | nil => exact absurd hs (by show ¬ 0 = h'; omega)
    | cons b r =>
      have hb0 : gb x 0 = b := hb 0 (by simp)
      rw [e_11_1, if_pos (by rw [O_le (by omega) (by omega)]; simp at hi; omega), e_11_12, e_11_13, e_11_14, e_11_15, e_11_15, b01_0, b01_1, gd_t, gd_t, ite_bI]
      congr 4
      simp only [gb_and1, hb0]
      cases b <;> rfl
  | t :: ts, i, x, s, h', hi, hg0, hh, h1, hs, hb => by
    have hi' : i + (ts.length + 1) = n := hi
    have ht : gI ν A i = t := hg0 0 (by simp)
    have hrest : ∀ j, (h : j < ts.length) → gI ν A (i + 1 + j) = ts[j] := by
      intro j hj
      have := hg0 (j + 1) (by simp; omega)
      rw [Nat.add_assoc, Nat.add_comm 1 j]
      exact this
    have go := l_11 d facts A n ν hA hn hn2 ts (i + 1)
    have n1 : (1 : Int32) &&& 31 = 1 := rfl
    rw [e_11_1, if_neg (by rw [O_le (by omega) (by omega)]; omega), e_11_2, hn, hA, inb_O (by omega) (by omega), tn_O (by omega), ht, Bool.and_self, gd_t]
    unfold hg at hh
    rw [List.foldl_cons]
    by_cases c5 : t &&& 7 = 5
    · rw [if_pos c5, e_11_3, e_11_11, O_succ]
      rw [if_pos c5] at hh
      by_cases hq : 1 ≤ s.length
      case neg => rw [if_neg hq] at hh; cases hh
      rw [if_pos hq] at hh
      cases s with
      | nil => exact absurd hq (by simp)
      | cons a r =>
        have e : stp (fun t => tst (fct facts t) t) (a :: r) t = (!a) :: r := by unfold stp; rw [if_pos c5]
        rw [e]
        exact go _ ((!a) :: r) h' (by omega) hrest hh h1 hs (BR_not hb)
    · rw [if_neg c5]
      rw [if_neg c5] at hh
      by_cases c6 : t &&& 7 = 6
      · rw [if_pos c6, e_11_4, e_11_11, O_succ, n1]
        rw [if_pos c6] at hh
        by_cases hq : 2 ≤ s.length
        case neg => rw [if_neg hq] at hh; cases hh
        rw [if_pos hq] at hh
        match s, hs, hb, hh, hq with
        | [], _, _, _, hq => exact absurd hq (by simp)
        | [_], _, _, _, hq => exact absurd hq (by simp)
        | a :: b :: r, hs, hb, hh, _ =>
          have e : stp (fun t => tst (fct facts t) t) (a :: b :: r) t = (b && a) :: r := by unfold stp; rw [if_neg c5, if_pos c6]
          rw [e]
          have hl : r.length + 1 + 1 ≤ 30 := hs
          exact go _ ((b && a) :: r) h' (by omega) hrest hh h1 (by show r.length + 1 ≤ 30; omega) (BR_and hb (by omega))
      · rw [if_neg c6]
        rw [if_neg c6] at hh
        by_cases c7 : t &&& 7 = 7
        · rw [if_pos c7, e_11_5, e_11_11, O_succ, n1]
          rw [if_pos c7] at hh
          by_cases hq : 2 ≤ s.length
          case neg => rw [if_neg hq] at hh; cases hh
          rw [if_pos hq] at hh
          match s, hs, hb, hh, hq with
          | [], _, _, _, hq => exact absurd hq (by simp)
          | [_], _, _, _, hq => exact absurd hq (by simp)
          | a :: b :: r, hs, hb, hh, _ =>
            have e : stp (fun t => tst (fct facts t) t) (a :: b :: r) t = (b || a) :: r := by unfold stp; rw [if_neg c5, if_neg c6, if_pos c7]
            rw [e]
            have hl : r.length + 1 + 1 ≤ 30 := hs
            exact go _ ((b || a) :: r) h' (by omega) hrest hh h1 (by show r.length + 1 ≤ 30; omega) (BR_or hb (by omega))
        · rw [if_neg c7, e_11_6, s_13, bnd_1, app1, n1]
          rw [if_neg c7] at hh
          by_cases hl : s.length < 30
          case neg => rw [if_neg hl] at hh; cases hh
          case pos =>
            rw [if_pos hl] at hh
            have e : stp (fun t => tst (fct facts t) t) s t = tst (fct facts t) t :: s := by unfold stp; rw [if_neg c5, if_neg c6, if_neg c7]
            rw [e]
            refine (e_11_7 ..).trans ?_
            rw [bI_0]
            have fin := go (x <<< 1 ||| bI (tst (fct facts t) t)) (tst (fct facts t) t :: s) h' (by omega) hrest hh h1 (by show s.length + 1 ≤ 30; omega) (BR_push hb hl)
            rw [e_11_8, e_11_9, e_11_10, e_11_10, e_11_11, e_11_11, O_succ]
            rw [← fin]
            cases tst (fct facts t) t <;> rfl
/-- a TEST's token, and any token that is read -/
def okT (t : Int32) : Prop := ∃ a h n : Nat, a < 5 ∧ h < 3 ∧ n < 100 ∧ t = Int32.ofNat (a + 8 * h + 32 * n)
def okK (t : Int32) : Prop := t = 5 ∨ t = 6 ∨ t = 7 ∨ okT t
abbrev Cl : Type := Int32 × Int32 × List Int32
/-- a CLAUSE in the memory -/
def ClA (ν : MM) (c : Nat) (cl : Cl) : Prop := 57 ≤ c ∧ shp (fx ν) c = 3 ∧ gI ν c 0 = cl.1 ∧ gI ν c 1 = cl.2.1 ∧ (cl.2.2.length ≤ 100 ∧ ∀ t ∈ cl.2.2, okK t) ∧ hg cl.2.2 0 = some 1 ∧ ∃ A, 57 ≤ A ∧ gR (fx ν) c 2 = some A ∧ shp (fx ν) A = 20 ∧ aln (fx ν) A = cl.2.2.length ∧ ∀ j, (h : j < cl.2.2.length) → gI ν A j = cl.2.2[j]
def ff (facts : Int32) : Int32 → Bool := fun t => tst (fct facts t) t
theorem s_11 (d : Nat) {c : Nat} {cl : Cl} {ν : MM} (facts : Int32) (h : ClA ν c cl) : ev (d + 1) 11 0 [.ref c, .int facts] [] (fx ν) = some (some (.int (bI (hld (ff facts) cl.2.2))), fx ν) := by
  obtain ⟨_, h1, _, _, ⟨h2, _⟩, h3, A, _, h4, h5, h6, h7⟩ := h
  rw [e_11_0, h1, h4, asN_s, h5, h6]
  exact l_11 d facts A _ ν (by rw [h5]; rfl) h6 (by omega) cl.2.2 0 0 [] 1 (by omega) (fun j hj => by rw [Nat.zero_add]; exact h7 j hj) h3 (Nat.le_refl _) (by decide) (fun i hi => absurd hi (by simp))
