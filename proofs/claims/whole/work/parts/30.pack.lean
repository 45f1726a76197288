/-! facts of a row of STATES; whether a number is there -/
theorem O_rem {a c : Nat} (ha : a ≤ 1000000) (hc : c ≤ 1000000) (h0 : 0 < c) : Int32.ofNat a - Int32.ofNat a / Int32.ofNat c * Int32.ofNat c = Int32.ofNat (a % c) := by
  have hd : a / c * c ≤ a := Nat.div_mul_le_self a c
  rw [← Int32.ofNat_div (by omega) (by omega), ← Int32.ofNat_mul, ← Int32.ofNat_sub _ _ hd]
  congr 1
  have := Nat.div_add_mod a c
  rw [Nat.mul_comm] at this
  omega
theorem O_rem12 {a : Nat} (ha : a ≤ 1000000) : Int32.ofNat a - Int32.ofNat a / 12 * 12 = Int32.ofNat (a % 12) := O_rem ha (by decide) (by decide)
theorem O_rem4 {a : Nat} (ha : a ≤ 1000000) : Int32.ofNat a - Int32.ofNat a / 4 * 4 = Int32.ofNat (a % 4) := O_rem ha (by decide) (by decide)
theorem O_rem2 {a : Nat} (ha : a ≤ 1000000) : Int32.ofNat a - Int32.ofNat a / 2 * 2 = Int32.ofNat (a % 2) := O_rem ha (by decide) (by decide)
theorem an3 (x : Int32) : ∃ n, n < 4 ∧ x &&& 3 = Int32.ofNat n := by
  refine ⟨(x.toBitVec &&& 3#32).toNat, ?_, ?_⟩
  · rw [BitVec.toNat_and]
    exact Nat.lt_succ_of_le Nat.and_le_right
  · apply Int32.toBitVec.inj
    show x.toBitVec &&& 3#32 = BitVec.ofNat 32 _
    rw [BitVec.ofNat_toNat, BitVec.setWidth_eq]
/-- a STATE in a row -/
def stI (row i : Int32) : Int32 := row >>> ((2 * i) &&& 31) &&& 3
theorem s_107 (d : Nat) (row i : Int32) (ν : MM) : ev d 107 0 [.int row, .int i] [] (fx ν) = some (some (.int (stI row i)), fx ν) := e_107_0 ..
theorem s_136 (d : Nat) (row i : Int32) (ν : MM) : ev d 136 0 [.int row, .int i] [] (fx ν) = some (some (.int (stI row i)), fx ν) := e_136_0 ..
/-- a name's value in a row: of THINGS that are, their STATE; else 9 -/
def rwf (T : Nat) (row : Int32) (i : Nat) : Int32 := if T ≤ i then 9 else stI row (Int32.ofNat i)
theorem rwf_in (T : Nat) (row : Int32) (i : Nat) : rwf T row i ∈ [(0 : Int32), 1, 2, 3, 9] := by
  unfold rwf
  split
  · decide
  · obtain ⟨n, hn, e⟩ := an3 (row >>> ((2 * Int32.ofNat i) &&& 31))
    unfold stI
    rw [e]
    have q : ∀ n, n < 4 → Int32.ofNat n ∈ [(0 : Int32), 1, 2, 3, 9] := by decide
    exact q n hn
def rwy (T : Nat) (row h : Int32) : Nat → Int32 := fun i => if i < 4 then rwf T row i else h
theorem pack_num : ∀ f0 ∈ [(0 : Int32), 1, 2, 3, 9], ∀ f1 ∈ [(0 : Int32), 1, 2, 3, 9], ∀ f2 ∈ [(0 : Int32), 1, 2, 3, 9], ∀ f3 ∈ [(0 : Int32), 1, 2, 3, 9], ∀ h, h < 12 → (fun x : Int32 => x >>> Int32.ofNat 0 &&& 15 = f0 ∧ x >>> Int32.ofNat 4 &&& 15 = f1 ∧ x >>> Int32.ofNat 8 &&& 15 = f2 ∧ x >>> Int32.ofNat 12 &&& 15 = f3 ∧ x >>> Int32.ofNat 16 &&& 15 = Int32.ofNat h) ((((Int32.ofNat h <<< (16 : Int32) ||| f0 <<< ((4 * Int32.ofNat 0) &&& 31)) ||| f1 <<< ((4 * Int32.ofNat 1) &&& 31)) ||| f2 <<< ((4 * Int32.ofNat 2) &&& 31)) ||| f3 <<< ((4 * Int32.ofNat 3) &&& 31)) := by decide +kernel
def packR (f : Nat → Int32) (h : Int32) : Int32 := (((h <<< (16 : Int32) ||| f 0 <<< ((4 * Int32.ofNat 0) &&& 31)) ||| f 1 <<< ((4 * Int32.ofNat 1) &&& 31)) ||| f 2 <<< ((4 * Int32.ofNat 2) &&& 31)) ||| f 3 <<< ((4 * Int32.ofNat 3) &&& 31)
theorem packR_ok (T : Nat) (row : Int32) {h : Nat} (hh : h < 12) : Pck 5 (packR (rwf T row) (Int32.ofNat h)) (rwy T row (Int32.ofNat h)) := by
  have k := pack_num _ (rwf_in T row 0) _ (rwf_in T row 1) _ (rwf_in T row 2) _ (rwf_in T row 3) h hh
  intro a ha
  match a, ha with
  | 0, _ => exact k.1
  | 1, _ => exact k.2.1
  | 2, _ => exact k.2.2.1
  | 3, _ => exact k.2.2.2.1
  | 4, _ => exact k.2.2.2.2
theorem packT_num : ∀ t, t < 4 → ∀ s, s < 4 → ∀ h, h < 12 → ∀ a, a < 4 → (((Int32.ofNat t ||| (Int32.ofNat s <<< 4)) ||| (Int32.ofNat h <<< 8)) ||| 36864) >>> (Int32.ofNat (4 * a)) &&& 15 = by4 (Int32.ofNat t) (Int32.ofNat s) (Int32.ofNat h) 9 a := by decide +kernel
theorem packW_num : ∀ k, k < 7 → ∀ h, h < 12 → ∀ a, a < 4 → (((153 : Int32) ||| (Int32.ofNat h <<< 8)) ||| (Int32.ofNat k <<< 12)) >>> (Int32.ofNat (4 * a)) &&& 15 = by4 9 9 (Int32.ofNat h) (Int32.ofNat k) a := by decide +kernel
