/-! whole texts of steps -/
theorem hg_cons (f : Int32 → Bool) {t : Int32} {ts : List Int32} {s : List Bool} {h' : Nat} (h : hg (t :: ts) s.length = some h') : okh t s.length ∧ hg ts (stp f s t).length = some h' ∧ (s.length ≤ 30 → (stp f s t).length ≤ 30) := by
  unfold hg at h
  unfold okh stp
  by_cases c5 : t &&& 7 = 5
  · rw [if_pos c5] at h ⊢
    rw [if_pos c5]
    by_cases q : 1 ≤ s.length
    case neg => rw [if_neg q] at h; cases h
    rw [if_pos q] at h
    cases s with
    | nil => exact absurd q (by simp)
    | cons a r => exact ⟨q, h, fun g => g⟩
  · rw [if_neg c5] at h ⊢
    rw [if_neg c5]
    by_cases c6 : t &&& 7 = 6
    · rw [if_pos c6] at h ⊢
      rw [if_pos c6]
      by_cases q : 2 ≤ s.length
      case neg => rw [if_neg q] at h; cases h
      rw [if_pos q] at h
      match s, q, h with
      | [], q, _ => exact absurd q (by simp)
      | [_], q, _ => exact absurd q (by simp)
      | a :: b :: r, q, h => exact ⟨q, h, fun g => by have g : r.length + 1 + 1 ≤ 30 := g; show r.length + 1 ≤ 30; omega⟩
    · rw [if_neg c6] at h ⊢
      rw [if_neg c6]
      by_cases c7 : t &&& 7 = 7
      · rw [if_pos c7] at h ⊢
        rw [if_pos c7]
        by_cases q : 2 ≤ s.length
        case neg => rw [if_neg q] at h; cases h
        rw [if_pos q] at h
        match s, q, h with
        | [], q, _ => exact absurd q (by simp)
        | [_], q, _ => exact absurd q (by simp)
        | a :: b :: r, q, h => exact ⟨q, h, fun g => by have g : r.length + 1 + 1 ≤ 30 := g; show r.length + 1 ≤ 30; omega⟩
      · rw [if_neg c7] at h ⊢
        rw [if_neg c7]
        by_cases q : s.length < 30
        case neg => rw [if_neg q] at h; cases h
        rw [if_pos q] at h
        exact ⟨q, h, fun _ => by show s.length + 1 ≤ 30; omega⟩
theorem Fr.row {ν ν' : MM} (h : Fr Pg Q0 ν ν') {q : Nat} (hq : Nat.beq q 50 = false) (hq2 : Nat.beq q 46 = false) : gI ν' q = gI ν q := by
  funext k
  refine h.rI q k ?_
  unfold Pg
  rw [hq, hq2]
  rfl
theorem Fr.row5 {ν ν' : MM} (h : Fr P5 Q0 ν ν') {q : Nat} (hq : Nat.beq q 50 = false) : gI ν' q = gI ν q := by
  funext k
  exact h.rI q k hq
theorem g_toks (d : Nat) (F M : Int32) (N : Nat) (hN : N ≤ 1562) (hF : F + M = Int32.ofNat N) : ∀ (ts : List Int32) (ν : MM) (s : List Bool) (i h' : Nat), (∀ t ∈ ts, okK t) → hg ts s.length = some h' → s.length ≤ 30 → TR ν s → (∀ j, (h : j < ts.length) → gI ν 47 (i + j) = cvt ts[j]) → i + ts.length ≤ N → ∃ ν', ev (d + 1) 134 4 [.ref 46, .int F, .int M, .int (Int32.ofNat s.length), .int (Int32.ofNat i)] [] (fx ν) = ev (d + 1) 134 4 [.ref 46, .int F, .int M, .int (Int32.ofNat h'), .int (Int32.ofNat (i + ts.length))] [] (fx ν') ∧ Fr P5 Q0 ν ν' ∧ TR ν' (ts.foldl (stp (fb (gI ν 49))) s) ∧ (ts.foldl (stp (fb (gI ν 49))) s).length = h' ∧ (b01 (gI ν 50 0) = true → b01 (gI ν' 50 0) = true)
  | [], ν, s, i, h', _, hh, _, hT, _, _ => by
    have hh : s.length = h' := Option.some.inj hh
    exact ⟨ν, by rw [hh]; rfl, Fr.rf, hT, hh, fun h => h⟩
  | t :: ts, ν, s, i, h', hk, hh, hl, hT, hs, hi => by
    have hi : i + (ts.length + 1) ≤ N := hi
    obtain ⟨g1, g2, g3⟩ := hg_cons (fb (gI ν 49)) hh
    have hm : ¬ F + M ≤ Int32.ofNat i := by
      rw [hF, O_le (by omega) (by omega)]
      omega
    obtain ⟨ν1, e1, f1, t1, b1⟩ := g_tok d F M (hk t (by simp)) (i := i) (by omega) hm (hs 0 (by simp)) hT hl g1
    have r49 := f1.row5 (q := 49) rfl
    have r47 := f1.row5 (q := 47) rfl
    obtain ⟨ν2, e2, f2, t2, l2, b2⟩ := g_toks d F M N hN hF ts ν1 _ (i + 1) h' (fun t ht => hk t (by simp [ht])) g2 (g3 hl) t1 (fun j hj => by
      rw [r47]
      have := hs (j + 1) (by simp; omega)
      rw [Nat.add_assoc, Nat.add_comm 1 j]
      exact this) (by omega)
    rw [r49] at t2 l2
    have e3 : i + 1 + ts.length = i + (t :: ts).length := by show i + 1 + ts.length = i + (ts.length + 1); omega
    rw [e3] at e2
    exact ⟨ν2, e1.trans e2, f1.tr f2, t2, l2, fun h => b2 (b1 h)⟩
/-- a CLAUSE's last step -/
def kst (w n : Int32) : Int32 := (if w = 0 then -10 else if w = 1 then -200 else -400) - n
theorem k_num : ∀ n, n < 100 → ((kst 0 (Int32.ofNat n) < 0 ∧ kst 0 (Int32.ofNat n) ≠ -1 ∧ kst 0 (Int32.ofNat n) ≤ -10) ∧ ¬ kst 0 (Int32.ofNat n) ≤ -200 ∧ -200 < kst 0 (Int32.ofNat n) ∧ -400 < kst 0 (Int32.ofNat n) ∧ -10 - kst 0 (Int32.ofNat n) = Int32.ofNat n) ∧ ((kst 1 (Int32.ofNat n) < 0 ∧ kst 1 (Int32.ofNat n) ≠ -1 ∧ kst 1 (Int32.ofNat n) ≤ -10) ∧ kst 1 (Int32.ofNat n) ≤ -200 ∧ ¬ -200 < kst 1 (Int32.ofNat n) ∧ ¬ kst 1 (Int32.ofNat n) ≤ -400 ∧ -400 < kst 1 (Int32.ofNat n) ∧ -200 - kst 1 (Int32.ofNat n) = Int32.ofNat n) ∧ ((kst 2 (Int32.ofNat n) < 0 ∧ kst 2 (Int32.ofNat n) ≠ -1 ∧ kst 2 (Int32.ofNat n) ≤ -10) ∧ kst 2 (Int32.ofNat n) ≤ -200 ∧ ¬ -200 < kst 2 (Int32.ofNat n) ∧ kst 2 (Int32.ofNat n) ≤ -400 ∧ ¬ -400 < kst 2 (Int32.ofNat n) ∧ -400 - kst 2 (Int32.ofNat n) = Int32.ofNat n) := by decide +kernel
def okcl (c : Cl) : Prop := ((c.1 = 0 ∨ c.1 = 1 ∨ c.1 = 2) ∧ ∃ n, n < 100 ∧ c.2.1 = Int32.ofNat n) ∧ (∀ t ∈ c.2.2, okK t) ∧ hg c.2.2 0 = some 1
def Pk (q k : Nat) : Bool := Nat.beq q 46 && (Nat.beq k 12 || (Nat.beq k 13 || Nat.beq k 14))
theorem Pk_Pg (q k : Nat) (h : Pg q k = false) : Pk q k = false := by
  unfold Pg at h
  unfold Pk
  exact (Bool.or_eq_false_iff.mp h).2
def adc (w : Int32) (c : Cl) (b : Bool) (a : Int32) : Int32 := if c.1 = w ∧ b = true then a + c.2.1 else a
theorem add0 (a : Int32) : a + 0 = a := Int32.add_zero a
/-- the clause's step: what it adds -/
theorem g_kst (d : Nat) (F M : Int32) {ν : MM} {c : Cl} (hc : okcl c) {i h : Nat} {b : Bool} (hi : i < 1562) (hm : ¬ F + M ≤ Int32.ofNat i) (hs : gI ν 47 i = kst c.1 c.2.1) (hb : gI ν 50 0 = bI b) : ∃ ν', ev (d + 1) 134 4 [.ref 46, .int F, .int M, .int (Int32.ofNat h), .int (Int32.ofNat i)] [] (fx ν) = ev (d + 1) 134 4 [.ref 46, .int F, .int M, .int (Int32.ofNat 0), .int (Int32.ofNat (i + 1))] [] (fx ν') ∧ Fr Pk Q0 ν ν' ∧ gI ν' 46 12 = adc 0 c b (gI ν 46 12) ∧ gI ν' 46 13 = adc 1 c b (gI ν 46 13) ∧ gI ν' 46 14 = adc 2 c b (gI ν 46 14) := by
  obtain ⟨⟨hw, n, hn, hcn⟩, -, -⟩ := hc
  obtain ⟨⟨⟨a1, a2, a3⟩, a4, a5, a6, a7⟩, ⟨⟨b1, b2, b3⟩, b4, b5, b6, b7, b8⟩, ⟨c1, c2, c3⟩, c4, c5, c6, c7, c8⟩ := k_num n hn
  rw [e_134_4, if_neg hm, e_134_5, inb_O hi (by omega), tn_O (by omega), gd_t, hs, hcn]
  have key : ∀ (x y z : Int32), x = adc 0 c b (gI ν 46 12) → y = adc 1 c b (gI ν 46 13) → z = adc 2 c b (gI ν 46 14) → ev (d + 1) 134 38 [.ref 46, .int F, .int M, .int 0, .int (Int32.ofNat i)] [] (fx (sI (sI (sI ν 46 12 x) 46 13 y) 46 14 z)) = ev (d + 1) 134 4 [.ref 46, .int F, .int M, .int (Int32.ofNat 0), .int (Int32.ofNat (i + 1))] [] (fx (sI (sI (sI ν 46 12 x) 46 13 y) 46 14 z)) ∧ Fr Pk Q0 ν (sI (sI (sI ν 46 12 x) 46 13 y) 46 14 z) ∧ gI (sI (sI (sI ν 46 12 x) 46 13 y) 46 14 z) 46 12 = adc 0 c b (gI ν 46 12) ∧ gI (sI (sI (sI ν 46 12 x) 46 13 y) 46 14 z) 46 13 = adc 1 c b (gI ν 46 13) ∧ gI (sI (sI (sI ν 46 12 x) 46 13 y) 46 14 z) 46 14 = adc 2 c b (gI ν 46 14) := by
    intro x y z hx hy hz
    refine ⟨by rw [e_134_38, O_succ]; rfl, (Fr.wI _ rfl).tr ((Fr.wI _ rfl).tr (Fr.wI _ rfl)), hx, hy, hz⟩
  have z01 : (0 : Int32) ≠ 1 := by decide
  have z02 : (0 : Int32) ≠ 2 := by decide
  have z12 : (1 : Int32) ≠ 2 := by decide
  cases b with
  | false =>
    refine ⟨_, ?_, (key (gI ν 46 12) (gI ν 46 13) (gI ν 46 14) (by unfold adc; rw [if_neg (by simp)]) (by unfold adc; rw [if_neg (by simp)]) (by unfold adc; rw [if_neg (by simp)])).2⟩
    rw [← (key (gI ν 46 12) (gI ν 46 13) (gI ν 46 14) (by unfold adc; rw [if_neg (by simp)]) (by unfold adc; rw [if_neg (by simp)]) (by unfold adc; rw [if_neg (by simp)])).1]
    have hk : kst c.1 (Int32.ofNat n) < 0 ∧ kst c.1 (Int32.ofNat n) ≠ -1 ∧ kst c.1 (Int32.ofNat n) ≤ -10 := by
      rcases hw with h | h | h <;> rw [h]
      · exact ⟨a1, a2, a3⟩
      · exact ⟨b1, b2, b3⟩
      · exact ⟨c1, c2, c3⟩
    rw [if_pos hk.1, e_134_8, if_neg hk.2.1, e_134_13, if_pos hk.2.2, e_134_24, hb, bI_f, if_pos rfl, e_134_27, e_134_28, if_pos rfl, add0, e_134_32, e_134_33, if_pos rfl, add0, e_134_36, e_134_37, add0]
    rfl
  | true =>
    rcases hw with hw | hw | hw
    · refine ⟨_, ?_, (key (gI ν 46 12 + Int32.ofNat n) (gI ν 46 13) (gI ν 46 14) (by unfold adc; rw [if_pos ⟨hw, rfl⟩, hcn]) (by unfold adc; rw [hw, if_neg (by simp)]) (by unfold adc; rw [hw, if_neg (by simp)])).2⟩
      rw [← (key (gI ν 46 12 + Int32.ofNat n) (gI ν 46 13) (gI ν 46 14) (by unfold adc; rw [if_pos ⟨hw, rfl⟩, hcn]) (by unfold adc; rw [hw, if_neg (by simp)]) (by unfold adc; rw [hw, if_neg (by simp)])).1]
      rw [hw, if_pos a1, e_134_8, if_neg a2, e_134_13, if_pos a3, e_134_24, hb, bI_t, if_neg (by decide), e_134_25, if_neg a4, e_134_26, a7, e_134_28, if_neg (by decide), e_134_29, if_pos a5, e_134_32, e_134_33, if_neg (by decide), add0, e_134_34, if_pos a6, e_134_36, e_134_37, add0]
      rfl
    · refine ⟨_, ?_, (key (gI ν 46 12) (gI ν 46 13 + Int32.ofNat n) (gI ν 46 14) (by unfold adc; rw [hw, if_neg (by simp)]) (by unfold adc; rw [if_pos ⟨hw, rfl⟩, hcn]) (by unfold adc; rw [hw, if_neg (by simp)])).2⟩
      rw [← (key (gI ν 46 12) (gI ν 46 13 + Int32.ofNat n) (gI ν 46 14) (by unfold adc; rw [hw, if_neg (by simp)]) (by unfold adc; rw [if_pos ⟨hw, rfl⟩, hcn]) (by unfold adc; rw [hw, if_neg (by simp)])).1]
      rw [hw, if_pos b1, e_134_8, if_neg b2, e_134_13, if_pos b3, e_134_24, hb, bI_t, if_neg (by decide), e_134_25, if_pos b4, e_134_27, e_134_28, if_neg (by decide), add0, e_134_29, if_neg b5, e_134_30, if_neg b6, e_134_31, b8, e_134_33, if_neg (by decide), e_134_34, if_pos b7, e_134_36, e_134_37, add0]
      rfl
    · refine ⟨_, ?_, (key (gI ν 46 12) (gI ν 46 13) (gI ν 46 14 + Int32.ofNat n) (by unfold adc; rw [hw, if_neg (by simp)]) (by unfold adc; rw [hw, if_neg (by simp)]) (by unfold adc; rw [if_pos ⟨hw, rfl⟩, hcn])).2⟩
      rw [← (key (gI ν 46 12) (gI ν 46 13) (gI ν 46 14 + Int32.ofNat n) (by unfold adc; rw [hw, if_neg (by simp)]) (by unfold adc; rw [hw, if_neg (by simp)]) (by unfold adc; rw [if_pos ⟨hw, rfl⟩, hcn])).1]
      rw [hw, if_pos c1, e_134_8, if_neg c2, e_134_13, if_pos c3, e_134_24, hb, bI_t, if_neg (by decide), e_134_25, if_pos c4, e_134_27, e_134_28, if_neg (by decide), add0, e_134_29, if_neg c5, e_134_30, if_pos c6, e_134_32, e_134_33, if_neg (by decide), add0, e_134_34, if_neg c7, e_134_35, c8, e_134_37]
      rfl
