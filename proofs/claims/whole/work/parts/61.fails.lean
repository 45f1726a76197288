/-! from which rows of STATES a SAYING may fail -/
def wst (r t s : Nat) : Nat := r - stD r t * 4 ^ t + s * 4 ^ t
theorem wst_I : ∀ r, r < 256 → ∀ t, t < 4 → ∀ s, s < 4 → (Int32.ofNat r &&& ((3 : Int32) <<< (((2 : Int32) * Int32.ofNat t) &&& 31) ^^^ (-1))) ||| ((Int32.ofNat s &&& 3) <<< (((2 : Int32) * Int32.ofNat t) &&& 31)) = Int32.ofNat (wst r t s) := by decide +kernel
theorem wst_at : ∀ r, r < 256 → ∀ t, t < 4 → ∀ s, s < 4 → ∀ i, i < 4 → stD (wst r t s) i = if i = t then s else stD r i := by decide +kernel
theorem wst_lt4 : ∀ T, T < 5 → ∀ r, r < 256 → r < 4 ^ T → ∀ t, t < T → ∀ s, s < 4 → wst r t s < 4 ^ T := by decide +kernel
theorem wst_wst : ∀ r, r < 256 → ∀ t, t < 4 → ∀ s, s < 4 → ∀ j, j < 4 → wst (wst r t s) t j = wst r t j := by decide +kernel
theorem wst_self : ∀ r, r < 256 → ∀ t, t < 4 → wst r t (stD r t) = r := by decide +kernel
theorem st_sum : ∀ r, r < 256 → r = stD r 0 + 4 * stD r 1 + 16 * stD r 2 + 64 * stD r 3 := by decide +kernel
theorem wst_lt {T r t s : Nat} (hT : T ≤ 4) (hr : r < 4 ^ T) (ht : t < T) (hs : s < 4) : wst r t s < 4 ^ T := wst_lt4 T (by omega) r (Nat.lt_of_lt_of_le hr (p4_le hT)) hr t ht s hs
theorem st_ext {T r q : Nat} (hT : T ≤ 4) (hr : r < 4 ^ T) (hq : q < 4 ^ T) (h : ∀ i, i < T → stD r i = stD q i) : r = q := by
  have h256 := p4_le hT
  have e : ∀ i, stD r i = stD q i := by
    intro i
    by_cases c : i < T
    · exact h i c
    · rw [stD_out hr (by omega), stD_out hq (by omega)]
  rw [st_sum r (by omega), st_sum q (by omega), e 0, e 1, e 2, e 3]
/-- FB t: some row that things below t may come to, the others as they are, fails -/
def FB (R : Nat → Nat → Int32) (F : Nat → Bool) : Nat → Nat → Bool
  | 0, r => F r
  | t + 1, r => (((gb (R t (stD r t)) 0 && FB R F t (wst r t 0)) || (gb (R t (stD r t)) 1 && FB R F t (wst r t 1))) || (gb (R t (stD r t)) 2 && FB R F t (wst r t 2))) || (gb (R t (stD r t)) 3 && FB R F t (wst r t 3))
theorem FB_s (R : Nat → Nat → Int32) (F : Nat → Bool) (t r : Nat) : FB R F (t + 1) r = ((((gb (R t (stD r t)) 0 && FB R F t (wst r t 0)) || (gb (R t (stD r t)) 1 && FB R F t (wst r t 1))) || (gb (R t (stD r t)) 2 && FB R F t (wst r t 2))) || (gb (R t (stD r t)) 3 && FB R F t (wst r t 3))) := rfl
theorem FB_succ (R : Nat → Nat → Int32) (F : Nat → Bool) (t r : Nat) : FB R F (t + 1) r = true ↔ ∃ s, s < 4 ∧ gb (R t (stD r t)) s = true ∧ FB R F t (wst r t s) = true := by
  rw [FB_s]
  simp only [Bool.or_eq_true, Bool.and_eq_true]
  constructor
  · rintro (((h | h) | h) | h)
    · exact ⟨0, by decide, h.1, h.2⟩
    · exact ⟨1, by decide, h.1, h.2⟩
    · exact ⟨2, by decide, h.1, h.2⟩
    · exact ⟨3, by decide, h.1, h.2⟩
  · rintro ⟨s, hs, h1, h2⟩
    match s, hs with
    | 0, _ => exact Or.inl (Or.inl (Or.inl ⟨h1, h2⟩))
    | 1, _ => exact Or.inl (Or.inl (Or.inr ⟨h1, h2⟩))
    | 2, _ => exact Or.inl (Or.inr ⟨h1, h2⟩)
    | 3, _ => exact Or.inr ⟨h1, h2⟩
theorem FB_iff (R : Nat → Nat → Int32) (F : Nat → Bool) {T : Nat} (hT : T ≤ 4) : ∀ t, t ≤ T → ∀ r, r < 4 ^ T → (FB R F t r = true ↔ ∃ q, q < 4 ^ T ∧ (∀ i, i < t → gb (R i (stD r i)) (stD q i) = true) ∧ (∀ i, t ≤ i → i < T → stD q i = stD r i) ∧ F q = true)
  | 0, _, r, hr => by
    constructor
    · exact fun h => ⟨r, hr, fun i hi => absurd hi (by omega), fun _ _ _ => rfl, h⟩
    · rintro ⟨q, hq, -, h2, h3⟩
      rw [st_ext hT hr hq fun i hi => (h2 i (by omega) hi).symm]
      exact h3
  | t + 1, ht, r, hr => by
    have h256 := p4_le hT
    have at' := fun s hs i hi => wst_at r (by omega) t (by omega) s hs i hi
    rw [FB_succ]
    constructor
    · rintro ⟨s, hs, h1, h2⟩
      obtain ⟨q, hq, g1, g2, g3⟩ := (FB_iff R F hT t (by omega) (wst r t s) (wst_lt hT hr (by omega) hs)).mp h2
      have hqt : stD q t = s := by rw [g2 t (by omega) (by omega), at' s hs t (by omega), if_pos rfl]
      refine ⟨q, hq, fun i hi => ?_, fun i h1 h2 => ?_, g3⟩
      · by_cases c : i = t
        · rw [c, hqt]; exact h1
        · have := g1 i (by omega)
          rw [at' s hs i (by omega), if_neg c] at this
          exact this
      · rw [g2 i (by omega) h2, at' s hs i (by omega), if_neg (by omega)]
    · rintro ⟨q, hq, g1, g2, g3⟩
      refine ⟨stD q t, stD_lt q t, g1 t (by omega), ?_⟩
      refine (FB_iff R F hT t (by omega) (wst r t (stD q t)) (wst_lt hT hr (by omega) (stD_lt q t))).mpr ⟨q, hq, fun i hi => ?_, fun i h1 h2 => ?_, g3⟩
      · rw [at' _ (stD_lt q t) i (by omega), if_neg (by omega)]
        exact g1 i (by omega)
      · rw [at' _ (stD_lt q t) i (by omega)]
        by_cases c : i = t
        · rw [if_pos c, c]
        · rw [if_neg c]
          exact g2 i (by omega) h2
/-- all from a number on -/
def alF (p : Nat → Bool) : Nat → Nat → Bool
  | 0, _ => true
  | m + 1, r => p r && alF p m (r + 1)
theorem alF_iff (p : Nat → Bool) : ∀ m r, alF p m r = true ↔ ∀ i, r ≤ i → i < r + m → p i = true
  | 0, r => ⟨fun _ i h1 h2 => absurd h2 (by omega), fun _ => rfl⟩
  | m + 1, r => by
    rw [show alF p (m + 1) r = (p r && alF p m (r + 1)) from rfl, Bool.and_eq_true, alF_iff p m (r + 1)]
    constructor
    · rintro ⟨h1, h2⟩ i h3 h4
      by_cases c : i = r
      · rw [c]; exact h1
      · exact h2 i (by omega) (by omega)
    · exact fun h => ⟨h r (by omega) (by omega), fun i h1 h2 => h i (by omega) (by omega)⟩
theorem alF_congr {p q : Nat → Bool} (h : ∀ i, p i = q i) : ∀ m r, alF p m r = alF q m r
  | 0, _ => rfl
  | m + 1, r => by
    rw [show alF p (m + 1) r = (p r && alF p m (r + 1)) from rfl, show alF q (m + 1) r = (q r && alF q m (r + 1)) from rfl, h r, alF_congr h m (r + 1)]
/-- whether all things may come there -/
def canB (R : Nat → Int32) (q : Nat) : Nat → Bool
  | 0 => true
  | t + 1 => canB R q t && gb (R t) (stD q t)
theorem canB_iff (R : Nat → Int32) (q : Nat) : ∀ T, canB R q T = true ↔ ∀ i, i < T → gb (R i) (stD q i) = true
  | 0 => ⟨fun _ i h => absurd h (by omega), fun _ => rfl⟩
  | T + 1 => by
    rw [show canB R q (T + 1) = (canB R q T && gb (R T) (stD q T)) from rfl, Bool.and_eq_true, canB_iff R q T]
    constructor
    · rintro ⟨h1, h2⟩ i hi
      by_cases c : i = T
      · rw [c]; exact h2
      · exact h1 i (by omega)
    · exact fun h => ⟨fun i hi => h i (by omega), h T (by omega)⟩
/-- surely so: no row that it may come to fails -/
def suB (R : Nat → Int32) (so : Nat → Bool) (T : Nat) : Bool := alF (fun q => !(canB R q T && !so q)) (4 ^ T) 0
theorem FB_suB (R : Nat → Nat → Int32) (so : Nat → Bool) {T : Nat} (hT : T ≤ 4) {r : Nat} (hr : r < 4 ^ T) : FB R (fun q => !so q) T r = !suB (fun t => R t (stD r t)) so T := by
  have h1 := FB_iff R (fun q => !so q) hT T (Nat.le_refl _) r hr
  have h2 : suB (fun t => R t (stD r t)) so T = true ↔ ∀ i, 0 ≤ i → i < 0 + 4 ^ T → (!(canB (fun t => R t (stD r t)) i T && !so i)) = true := alF_iff ..
  cases hs : suB (fun t => R t (stD r t)) so T with
  | true =>
    show FB R (fun q => !so q) T r = false
    rw [Bool.eq_false_iff]
    intro hf
    obtain ⟨q, hq, g1, -, g3⟩ := h1.mp hf
    have := h2.mp hs q (by omega) (by omega)
    rw [(canB_iff _ q T).mpr g1, g3] at this
    exact absurd this (by decide)
  | false =>
    show FB R (fun q => !so q) T r = true
    apply Classical.byContradiction
    intro hf
    have : suB (fun t => R t (stD r t)) so T = true := by
      rw [h2]
      intro i _ hi
      cases hc : (canB (fun t => R t (stD r t)) i T && !so i) with
      | false => rfl
      | true =>
        exfalso
        obtain ⟨c1, c2⟩ := Bool.and_eq_true_iff.mp hc
        exact hf (h1.mpr ⟨i, by omega, (canB_iff _ i T).mp c1, fun j a b => absurd b (by omega), c2⟩)
    rw [this] at hs
    cases hs
/-- counted and the least -/
def cnF (p : Nat → Bool) : Nat → Nat → Nat
  | 0, _ => 0
  | m + 1, r => cnF p m (r + 1) + if p r = true then 1 else 0
def lsF (p : Nat → Bool) : Nat → Nat → Int32
  | 0, _ => -5
  | m + 1, r => if p r = true then Int32.ofNat r else lsF p m (r + 1)
theorem cnF_le (p : Nat → Bool) : ∀ m r, cnF p m r ≤ m
  | 0, _ => Nat.le_refl _
  | m + 1, r => by
    have := cnF_le p m (r + 1)
    rw [show cnF p (m + 1) r = cnF p m (r + 1) + if p r = true then 1 else 0 from rfl]
    split <;> omega
theorem and0 (x : Int32) {p : Nat → Bool} (hx : S4 x) : (x &&& setI p = 0) = (((((gb x 0 && p 0) || (gb x 1 && p 1)) || (gb x 2 && p 2)) || (gb x 3 && p 3)) = false) := by
  have g : ∀ j, j < 32 → gb (setI p) j = if j = 0 then p 0 else if j = 1 then p 1 else if j = 2 then p 2 else if j = 3 then p 3 else false := fun j hj => setI_num _ _ _ _ j hj
  apply propext
  constructor
  · intro h
    have e : ∀ j, j < 32 → (gb x j && gb (setI p) j) = false := fun j _ => by rw [← gb_and, h, gb_zero]
    have e0 := e 0 (by decide)
    have e1 := e 1 (by decide)
    have e2 := e 2 (by decide)
    have e3 := e 3 (by decide)
    rw [g 0 (by decide)] at e0
    rw [g 1 (by decide)] at e1
    rw [g 2 (by decide)] at e2
    rw [g 3 (by decide)] at e3
    have e0 : (gb x 0 && p 0) = false := e0
    have e1 : (gb x 1 && p 1) = false := e1
    have e2 : (gb x 2 && p 2) = false := e2
    have e3 : (gb x 3 && p 3) = false := e3
    rw [e0, e1, e2, e3]
    rfl
  · intro h
    rw [Bool.or_eq_false_iff, Bool.or_eq_false_iff, Bool.or_eq_false_iff] at h
    obtain ⟨⟨⟨e0, e1⟩, e2⟩, e3⟩ := h
    refine I_ext fun j hj => ?_
    rw [gb_zero, gb_and, g j hj]
    by_cases c : j < 4
    · match j, c with
      | 0, _ => exact e0
      | 1, _ => exact e1
      | 2, _ => exact e2
      | 3, _ => exact e3
    · rw [hx j (by omega)]
      rfl
