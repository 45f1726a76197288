/-! SETS of STATES as bits; TURNS and DRIFT in numbers -/
theorem O_add (a b : Nat) : Int32.ofNat a + Int32.ofNat b = Int32.ofNat (a + b) := (Int32.ofNat_add a b).symm
theorem smc_n (f : Int32 → Bool) (w : Int32) : ∀ (cs : List Cl) (a : Nat), (∀ c ∈ cs, okcl c) → ∃ n, n ≤ a + 99 * cs.length ∧ smc f w cs (Int32.ofNat a) = Int32.ofNat n
  | [], a, _ => ⟨a, by simp, rfl⟩
  | c :: cs, a, h => by
    obtain ⟨⟨-, k, hk, ek⟩, -⟩ := h c (by simp)
    have hl : (c :: cs).length = cs.length + 1 := rfl
    rw [hl]
    unfold smc
    split
    · rw [ek, O_add]
      obtain ⟨n, h1, h2⟩ := smc_n f w cs (a + k) (fun c hc => h c (by simp [hc]))
      exact ⟨n, by omega, h2⟩
    · obtain ⟨n, h1, h2⟩ := smc_n f w cs a (fun c hc => h c (by simp [hc]))
      exact ⟨n, by omega, h2⟩
theorem tog_n (f : Int32 → Bool) {cs : List Cl} (h : ∀ c ∈ cs, okcl c) (hl : cs.length ≤ 10) (w : Int32) : ∃ n, n ≤ 990 ∧ tog f cs w = Int32.ofNat n ∧ (w = 1 → n ≤ 2) := by
  obtain ⟨n, h1, h2⟩ := smc_n f w cs 0 h
  unfold tog m2
  rw [show (0 : Int32) = Int32.ofNat 0 from rfl, h2]
  by_cases c : w = 1
  · rw [if_pos c]
    by_cases c2 : n < 2
    · exact ⟨n, by omega, by rw [if_pos (by rw [show (2 : Int32) = Int32.ofNat 2 from rfl, O_lt (by omega) (by omega)]; exact c2)], fun _ => by omega⟩
    · exact ⟨2, by omega, by rw [if_neg (by rw [show (2 : Int32) = Int32.ofNat 2 from rfl, O_lt (by omega) (by omega)]; exact c2)]; rfl, fun _ => by omega⟩
  · rw [if_neg c]
    exact ⟨n, by omega, rfl, fun e => absurd e c⟩
/-- TURNS, DRIFT of a THING in a STATE at an HOUR -/
def tuN (cs : List Cl) (t s h : Nat) : Nat := (tgT cs t s h 0).toNatClampNeg
def dfN (cs : List Cl) (t s h : Nat) : Nat := (tgT cs t s h 1).toNatClampNeg
def nxN (cs : List Cl) (t s h : Nat) : Nat := (s + tuN cs t s h) % 4
/-- all CLAUSES of a coast are as they are read -/
def okCs (cs : List Cl) : Prop := (∀ c ∈ cs, okcl c) ∧ cs.length ≤ 10 ∧ ∀ c ∈ cs, okTs 4 c.2.2
theorem tu_n {cs : List Cl} (h : okCs cs) (t s k : Nat) : tgT cs t s k 0 = Int32.ofNat (tuN cs t s k) ∧ tuN cs t s k ≤ 990 := by
  obtain ⟨n, h1, h2, -⟩ := tog_n (fb (by4 (Int32.ofNat t) (Int32.ofNat s) (Int32.ofNat (k % 12)) 9)) h.1 h.2.1 0
  have e : tgT cs t s k 0 = Int32.ofNat n := h2
  unfold tuN
  rw [e, tn_O (by omega)]
  exact ⟨rfl, h1⟩
theorem df_n {cs : List Cl} (h : okCs cs) (t s k : Nat) : tgT cs t s k 1 = Int32.ofNat (dfN cs t s k) ∧ dfN cs t s k ≤ 2 := by
  obtain ⟨n, h1, h2, h3⟩ := tog_n (fb (by4 (Int32.ofNat t) (Int32.ofNat s) (Int32.ofNat (k % 12)) 9)) h.1 h.2.1 1
  have e : tgT cs t s k 1 = Int32.ofNat n := h2
  unfold dfN
  rw [e, tn_O (by omega)]
  exact ⟨rfl, h3 rfl⟩
theorem nx_lt (cs : List Cl) (t s h : Nat) : nxN cs t s h < 4 := Nat.mod_lt _ (by decide)
/-- where a STATE goes to, as bits -/
def stF (a f : Nat) : Int32 := (if 2 ≤ f then 0 else (1 : Int32) <<< (Int32.ofNat a &&& 31)) ||| (if f = 0 then 0 else (1 : Int32) <<< (Int32.ofNat ((a + 1) % 4) &&& 31))
theorem stF_gb : ∀ a, a < 4 → ∀ f, f < 3 → ∀ j, j < 32 → gb (stF a f) j = ((decide (f < 2) && decide (j = a)) || (decide (0 < f) && decide (j = (a + 1) % 4))) := by decide +kernel
theorem stT_F {cs : List Cl} (h : okCs cs) {t s k : Nat} (hs : s < 4) : stT cs t s k = stF (nxN cs t s k) (dfN cs t s k) := by
  obtain ⟨a1, a2⟩ := tu_n h t s k
  obtain ⟨b1, b2⟩ := df_n h t s k
  unfold stT stv stF
  have e1 : Int32.ofNat (s + tuN cs t s k) + 1 = Int32.ofNat (s + tuN cs t s k + 1) := O_succ _
  have e2 : (s + tuN cs t s k + 1) % 4 = (nxN cs t s k + 1) % 4 := by unfold nxN; omega
  rw [a1, b1, O_add, e1, O_rem4 (by omega), O_rem4 (by omega), e2]
  have c2 : (2 ≤ Int32.ofNat (dfN cs t s k)) = (2 ≤ dfN cs t s k) := O_le (a := 2) (by omega) (by omega)
  have c0 : (Int32.ofNat (dfN cs t s k) ≤ 0) = (dfN cs t s k = 0) := by
    have : (Int32.ofNat (dfN cs t s k) ≤ Int32.ofNat 0) = (dfN cs t s k ≤ 0) := O_le (by omega) (by omega)
    rw [show (0 : Int32) = Int32.ofNat 0 from rfl, this, Nat.le_zero]
  congr 1
  · by_cases c : 2 ≤ dfN cs t s k
    · rw [if_pos c, if_pos (by rw [c2]; exact c)]
    · rw [if_neg c, if_neg (by rw [c2]; exact c)]
      rfl
  · by_cases c : dfN cs t s k = 0
    · rw [if_pos c, if_pos (by rw [c0]; exact c)]
    · rw [if_neg c, if_neg (by rw [c0]; exact c)]
theorem gb_zero (j : Nat) : gb 0 j = false := by
  show (0#32).getLsbD j = false
  exact BitVec.getLsbD_zero
theorem gb_hi (x : Int32) {j : Nat} (h : 32 ≤ j) : gb x j = false := BitVec.getLsbD_of_ge _ _ h
theorem I_ext {x y : Int32} (h : ∀ j, j < 32 → gb x j = gb y j) : x = y := Int32.toBitVec.inj (BitVec.eq_of_getLsbD_eq h)
/-- only the four lowest bits -/
def S4 (x : Int32) : Prop := ∀ j, 4 ≤ j → gb x j = false
theorem sh_num : ∀ i, i < 4 → (Int32.ofNat i &&& 31) = Int32.ofNat i ∧ ((4 * Int32.ofNat i) &&& 31) = Int32.ofNat (4 * i) ∧ ((2 * Int32.ofNat i) &&& 31) = Int32.ofNat (2 * i) := by decide
theorem smod_num : ∀ k, k < 32 → ((Int32.ofNat k).toBitVec.smod 32).toNat = k := by decide
theorem gb_sr (x : Int32) {k j : Nat} (h : k + j < 32) : gb (x >>> Int32.ofNat k) j = gb x (k + j) := by
  have e : (x >>> Int32.ofNat k).toBitVec = x.toBitVec.sshiftRight ((Int32.ofNat k).toBitVec.smod 32).toNat := rfl
  unfold gb
  rw [e, smod_num k (by omega), BitVec.getLsbD_sshiftRight, decide_eq_false (by omega), if_pos h]
  rfl
theorem gb_sl (x : Int32) {k j : Nat} (hk : k < 32) : gb (x <<< Int32.ofNat k) j = (decide (j < 32) && !decide (j < k) && gb x (j - k)) := by
  have e : (x <<< Int32.ofNat k).toBitVec = x.toBitVec <<< ((Int32.ofNat k).toBitVec.smod 32).toNat := by
    show x.toBitVec <<< ((Int32.ofNat k).toBitVec.smod 32) = _
    exact BitVec.shiftLeft_eq' ..
  unfold gb
  rw [e, smod_num k hk, BitVec.getLsbD_shiftLeft]
theorem gb_15 : ∀ j, j < 32 → gb 15 j = decide (j < 4) := by decide
theorem S4_or {x y : Int32} (hx : S4 x) (hy : S4 y) : S4 (x ||| y) := by
  intro j hj
  rw [gb_or, hx j hj, hy j hj]; rfl
theorem S4_stF {a f : Nat} (ha : a < 4) (hf : f ≤ 2) : S4 (stF a f) := by
  intro j hj
  by_cases c : j < 32
  · rw [stF_gb a ha f (by omega) j c, decide_eq_false (show ¬ j = a by omega), decide_eq_false (show ¬ j = (a + 1) % 4 by omega), Bool.and_false, Bool.and_false]; rfl
  · exact gb_hi _ (by omega)
theorem S4_0 : S4 0 := fun j _ => gb_zero j
/-- the four bits of one STATE in a packed number -/
theorem pk4_at (f : Nat → Int32) (hf : ∀ i, i < 4 → S4 (f i)) {i : Nat} (hi : i < 4) : pk4 f >>> ((4 * Int32.ofNat i) &&& 31) &&& 15 = f i := by
  have n0 : ((4 * Int32.ofNat 0) &&& 31 : Int32) = Int32.ofNat 0 := rfl
  have n1 : ((4 * Int32.ofNat 1) &&& 31 : Int32) = Int32.ofNat 4 := rfl
  have n2 : ((4 * Int32.ofNat 2) &&& 31 : Int32) = Int32.ofNat 8 := rfl
  have n3 : ((4 * Int32.ofNat 3) &&& 31 : Int32) = Int32.ofNat 12 := rfl
  refine I_ext fun j hj => ?_
  rw [(sh_num i hi).2.1, gb_and, gb_15 j hj]
  by_cases c : j < 4
  case neg => rw [decide_eq_false c, Bool.and_false, hf i hi j (by omega)]
  rw [decide_eq_true c, Bool.and_true, gb_sr _ (by omega)]
  unfold pk4
  rw [n0, n1, n2, n3, gb_or, gb_or, gb_or, gb_or, gb_zero, gb_sl _ (by omega), gb_sl _ (by omega), gb_sl _ (by omega), gb_sl _ (by omega), Bool.false_or, decide_eq_true (show 4 * i + j < 32 by omega)]
  have hz : ∀ a b, a < 4 → 4 ≤ b → gb (f a) b = false := fun a b ha hb => hf a ha b hb
  match i, hi with
  | 0, _ => simp [show j < 8 by omega, show j < 12 by omega, c]
  | 1, _ => simp [show 4 + j < 8 by omega, show 4 + j < 12 by omega, hz 0 (4 + j) (by omega) (by omega)]
  | 2, _ => simp [show ¬ 8 + j < 4 by omega, show 8 + j < 12 by omega, hz 0 (8 + j) (by omega) (by omega), hz 1 (8 + j - 4) (by omega) (by omega)]
  | 3, _ => simp [show ¬ 12 + j < 4 by omega, show ¬ 12 + j < 8 by omega, hz 0 (12 + j) (by omega) (by omega), hz 1 (12 + j - 4) (by omega) (by omega), hz 2 (12 + j - 8) (by omega) (by omega)]
