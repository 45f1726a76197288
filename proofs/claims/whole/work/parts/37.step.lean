/-! where a THING may come to in one HOUR -/
def tgT (cs : List Cl) (t s h : Nat) (w : Int32) : Int32 := tog (fb (by4 (Int32.ofNat t) (Int32.ofNat s) (Int32.ofNat (h % 12)) 9)) cs w
def stv (to dr : Int32) : Int32 := (if 2 ≤ dr then 0 else (1 : Int32) <<< ((to - to / 4 * 4) &&& 31)) ||| (if dr ≤ 0 then 0 else (1 : Int32) <<< (((to + 1) - (to + 1) / 4 * 4) &&& 31))
def stT (cs : List Cl) (t s h : Nat) : Int32 := stv (Int32.ofNat s + tgT cs t s h 0) (tgT cs t s h 1)
theorem s_110 (d : Nat) {ν : MM} {t s h : Nat} (hh : h ≤ 100000) : ev d 110 0 [.int (Int32.ofNat t), .int (Int32.ofNat s), .int (Int32.ofNat h)] [] (fx ν) = some (some (.int (((Int32.ofNat t ||| (Int32.ofNat s <<< 4)) ||| (Int32.ofNat (h % 12) <<< 8)) ||| 36864)), fx ν) := by
  rw [e_110_0, O_rem12 (by omega)]
  rfl
theorem tog_T {cs : List Cl} (hc : ∀ c ∈ cs, okTs 4 c.2.2) {t s : Nat} (ht : t < 4) (hs : s < 4) (h : Nat) (w : Int32) : tog (ff (((Int32.ofNat t ||| (Int32.ofNat s <<< 4)) ||| (Int32.ofNat (h % 12) <<< 8)) ||| 36864)) cs w = tgT cs t s h w :=
  tog_ff (B := 4) (fun a ha => packT_num t ht s hs _ (Nat.mod_lt _ (by decide)) a ha) hc w
theorem l_58 (d : Nat) {ν : MM} {A t h : Nat} {cs : List Cl} (hA : gR ν 29 2 = some A) (hC : CoA ν A cs) (hc : ∀ c ∈ cs, okTs 4 c.2.2) (ht : t < 4) (hh : h ≤ 100000) (x : Int32) {s : Nat} (hs : s < 4) : ev (d + 3) 58 1 [.ref 29, .int (Int32.ofNat t), .int (Int32.ofNat h), .int x, .int (Int32.ofNat s)] [] (fx ν) = ev (d + 3) 58 1 [.ref 29, .int (Int32.ofNat t), .int (Int32.ofNat h), .int (x ||| stT cs t s h <<< ((4 * Int32.ofNat s) &&& 31)), .int (Int32.ofNat (s + 1))] [] (fx ν) := by
  have h4 : ¬ (4 : Int32) ≤ Int32.ofNat s := by
    have q : ∀ i, i < 4 → ¬ (4 : Int32) ≤ Int32.ofNat i := by decide
    exact q s hs
  rw [e_58_1, if_neg h4, e_58_2, s_110 _ hh, bnd_1, app1]
  refine (e_58_3 ..).trans ?_
  rw [s_57 d _ _ hA hC, bnd_1, app1]
  refine (e_58_4 ..).trans ?_
  rw [s_57 d _ _ hA hC, bnd_1, app1, tog_T hc ht hs, tog_T hc ht hs]
  refine (e_58_5 ..).trans ?_
  unfold stT stv
  rw [e_58_7, e_58_6, e_58_8, e_58_8]
  by_cases c2 : 2 ≤ tgT cs t s h 1
  · rw [if_pos c2, if_pos c2]
    by_cases c0 : tgT cs t s h 1 ≤ 0
    · rw [if_pos c0, if_pos c0, e_58_10, e_58_11, O_succ]
    · rw [if_neg c0, if_neg c0, e_58_9, e_58_11, O_succ]
  · rw [if_neg c2, if_neg c2]
    by_cases c0 : tgT cs t s h 1 ≤ 0
    · rw [if_pos c0, if_pos c0, e_58_10, e_58_11, O_succ]
    · rw [if_neg c0, if_neg c0, e_58_9, e_58_11, O_succ]
/-- step, as the class packs it -/
def pk4 (f : Nat → Int32) : Int32 := (((0 ||| f 0 <<< ((4 * Int32.ofNat 0) &&& 31)) ||| f 1 <<< ((4 * Int32.ofNat 1) &&& 31)) ||| f 2 <<< ((4 * Int32.ofNat 2) &&& 31)) ||| f 3 <<< ((4 * Int32.ofNat 3) &&& 31)
theorem s_58 (d : Nat) {ν : MM} {A t h : Nat} {cs : List Cl} (hA : gR ν 29 2 = some A) (hC : CoA ν A cs) (hc : ∀ c ∈ cs, okTs 4 c.2.2) (ht : t < 4) (hh : h ≤ 100000) : ev (d + 3) 58 0 [.ref 29, .int (Int32.ofNat t), .int (Int32.ofNat h)] [] (fx ν) = some (some (.int (pk4 fun s => stT cs t s h)), fx ν) := by
  rw [e_58_0]
  show ev (d + 3) 58 1 [.ref 29, .int (Int32.ofNat t), .int (Int32.ofNat h), .int 0, .int (Int32.ofNat 0)] [] (fx ν) = _
  rw [l_58 d hA hC hc ht hh _ (by decide), l_58 d hA hC hc ht hh _ (by decide), l_58 d hA hC hc ht hh _ (by decide), l_58 d hA hC hc ht hh _ (by decide), e_58_1, if_pos (by decide), e_58_12]
  rfl
