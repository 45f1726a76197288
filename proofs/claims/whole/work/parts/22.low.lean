/-! LOW LEMMAS for runs of blocks -/
theorem bnd_0 (μ : MM) (K : List Value → MM → Rs) : bnd 0 (some (none, μ)) K = K [] μ := rfl
theorem bnd_1 (x : Int32) (μ : MM) (K : List Value → MM → Rs) : bnd 1 (some (some (.int x), μ)) K = K [.int x] μ := rfl
theorem bnd_2 (x : Int64) (μ : MM) (K : List Value → MM → Rs) : bnd 2 (some (some (.long x), μ)) K = K [.long x] μ := rfl
theorem bnd_3 (o : Option Nat) (μ : MM) (K : List Value → MM → Rs) : bnd 3 (some (some (rv o), μ)) K = K [rv o] μ := by cases o <;> rfl
theorem bnd_3n (μ : MM) (K : List Value → MM → Rs) : bnd 3 (some (some .null, μ)) K = K [.null] μ := rfl
theorem bnd_3r (a : Nat) (μ : MM) (K : List Value → MM → Rs) : bnd 3 (some (some (.ref a), μ)) K = K [.ref a] μ := rfl
theorem gd_t (r : Rs) : gd true r = r := rfl
theorem asN_n (z : Rs) (f : Nat → Rs) : asN (rv none) z f = z := rfl
theorem asN_s (a : Nat) (z : Rs) (f : Nat → Rs) : asN (rv (some a)) z f = f a := rfl
theorem asR_s (a : Nat) (f : Nat → Rs) : asR (rv (some a)) f = f a := rfl
theorem asN_rv (o : Option Nat) (μ : MM) : asN (rv o) (some (some .null, μ)) (fun a => some (some (.ref a), μ)) = some (some (rv o), μ) := by cases o <;> rfl
theorem app1 (v : Value) (l : List Value) : [v] ++ l = v :: l := rfl
theorem app0 (l : List Value) : [] ++ l = l := rfl
/-- a truth as a number -/
def bI (b : Bool) : Int32 := match b with
  | true => 1
  | false => 0
theorem bI_t : bI true = 1 := rfl
theorem bI_f : bI false = 0 := rfl
theorem b01_bI (b : Bool) : b01 (bI b) = true := by cases b <;> rfl
theorem b01_0 : b01 0 = true := rfl
theorem b01_1 : b01 1 = true := rfl
theorem bI_0 (b : Bool) {α : Type} (x y : α) : (if bI b = 0 then x else y) = if b = true then y else x := by cases b <;> rfl
theorem ite_bI (c : Prop) [Decidable c] (μ : MM) : (if c then some (some (Value.int 1), μ) else some (some (Value.int 0), μ) : Rs) = some (some (.int (bI (decide c))), μ) := by
  by_cases h : c
  · rw [if_pos h, decide_eq_true h]; rfl
  · rw [if_neg h, decide_eq_false h]; rfl
/-! reading what was written -/
theorem gI_sI (ν : MM) (q k : Nat) (v : Int32) (a b : Nat) : gI (sI ν q k v) a b = if a = q ∧ b = k then v else gI ν a b := rfl
theorem gI_sL (ν : MM) (q k : Nat) (v : Int64) (a b : Nat) : gI (sL ν q k v) a b = gI ν a b := rfl
theorem gI_sR (ν : MM) (q k : Nat) (v : Option Nat) (a b : Nat) : gI (sR ν q k v) a b = gI ν a b := rfl
theorem gL_sI (ν : MM) (q k : Nat) (v : Int32) (a b : Nat) : gL (sI ν q k v) a b = gL ν a b := rfl
theorem gL_sL (ν : MM) (q k : Nat) (v : Int64) (a b : Nat) : gL (sL ν q k v) a b = if a = q ∧ b = k then v else gL ν a b := rfl
theorem gL_sR (ν : MM) (q k : Nat) (v : Option Nat) (a b : Nat) : gL (sR ν q k v) a b = gL ν a b := rfl
theorem gR_sI (ν : MM) (q k : Nat) (v : Int32) (a b : Nat) : gR (sI ν q k v) a b = gR ν a b := rfl
theorem gR_sL (ν : MM) (q k : Nat) (v : Int64) (a b : Nat) : gR (sL ν q k v) a b = gR ν a b := rfl
theorem gR_sR (ν : MM) (q k : Nat) (v : Option Nat) (a b : Nat) : gR (sR ν q k v) a b = if a = q ∧ b = k then v else gR ν a b := rfl
theorem fs_sI (ν : MM) (q k : Nat) (v : Int32) : shp (fx (sI ν q k v)) = shp (fx ν) := rfl
theorem fs_sL (ν : MM) (q k : Nat) (v : Int64) : shp (fx (sL ν q k v)) = shp (fx ν) := rfl
theorem fs_sR (ν : MM) (q k : Nat) (v : Option Nat) : shp (fx (sR ν q k v)) = shp (fx ν) := rfl
theorem fa_sI (ν : MM) (q k : Nat) (v : Int32) : aln (fx (sI ν q k v)) = aln (fx ν) := rfl
theorem fa_sL (ν : MM) (q k : Nat) (v : Int64) : aln (fx (sL ν q k v)) = aln (fx ν) := rfl
theorem fa_sR (ν : MM) (q k : Nat) (v : Option Nat) : aln (fx (sR ν q k v)) = aln (fx ν) := rfl
theorem fr_sI (ν : MM) (q k : Nat) (v : Int32) : gR (fx (sI ν q k v)) = gR (fx ν) := rfl
theorem fr_sL (ν : MM) (q k : Nat) (v : Int64) : gR (fx (sL ν q k v)) = gR (fx ν) := rfl
theorem shp_fx (ν : MM) {q : Nat} (h : 57 ≤ q) : shp (fx ν) q = shp ν q := by
  show nxt fxK[q]? _ = _
  rw [List.getElem?_eq_none (by exact h)]
  rfl
theorem aln_fx (ν : MM) {q : Nat} (h : 57 ≤ q) : aln (fx ν) q = aln ν q := by
  show nxt (fxN.getD q none) _ = _
  rw [List.getD_eq_getElem?_getD, List.getElem?_eq_none (by exact h)]
  rfl
theorem gR_fx (ν : MM) {q : Nat} (k : Nat) (h : 57 ≤ q) : gR (fx ν) q k = gR ν q k := by
  show nxo ((fxR.getD q []).getD k none) _ = _
  rw [List.getD_eq_getElem?_getD (l := fxR), List.getElem?_eq_none (by exact h)]
  rfl
/-- a write of a reference that is not fixed -/
theorem fx_sR (ν : MM) {q k : Nat} (v : Option Nat) (h : (fxR.getD q []).getD k none = none) : sR (fx ν) q k v = fx (sR ν q k v) := by
  have e : (fun a b => if a = q ∧ b = k then v else gR (fx ν) a b) = gR (fx (sR ν q k v)) := by
    funext a b
    by_cases c : a = q ∧ b = k
    · rw [if_pos c, c.1, c.2]
      show v = nxo ((fxR.getD q []).getD k none) (gR (sR ν q k v) q k)
      rw [h]
      show v = if q = q ∧ k = k then v else _
      rw [if_pos ⟨rfl, rfl⟩]
    · rw [if_neg c]
      show _ = nxo ((fxR.getD a []).getD b none) (gR (sR ν q k v) a b)
      rw [gR_sR, if_neg c]
      rfl
  show ((fx ν).1, (fx ν).2.1, (fx ν).2.2.1, (fx ν).2.2.2.1, (fx ν).2.2.2.2.1, (fx ν).2.2.2.2.2.1, fun a b => if a = q ∧ b = k then v else gR (fx ν) a b) = _
  rw [e]
  rfl
/-- a new cell under fx -/
def alx (μ : MM) (kind n sl : Nat) : MM := (fun a => if a = msz μ + 57 then kind else shp μ a, fun a => if a = msz μ + 57 then n else aln μ a, msz μ + 1, msl μ + sl, fun a b => if a = msz μ + 57 then 0 else gI μ a b, fun a b => if a = msz μ + 57 then 0 else gL μ a b, fun a b => if a = msz μ + 57 then none else gR μ a b)
theorem fx_alc (ν : MM) (kd n sl : Nat) : alc (fx ν) kd n sl = fx (alx ν kd n sl) := by
  have e1 : (fun a => if a = msz ν + 57 then kd else shp (fx ν) a) = shp (fx (alx ν kd n sl)) := by
    funext a
    by_cases c : a = msz ν + 57
    · rw [if_pos c, shp_fx _ (by omega)]
      exact (if_pos c).symm
    · rw [if_neg c]
      show nxt fxK[a]? (shp ν a) = nxt fxK[a]? (if a = msz ν + 57 then kd else shp ν a)
      rw [if_neg c]
  have e2 : (fun a => if a = msz ν + 57 then n else aln (fx ν) a) = aln (fx (alx ν kd n sl)) := by
    funext a
    by_cases c : a = msz ν + 57
    · rw [if_pos c, aln_fx _ (by omega)]
      exact (if_pos c).symm
    · rw [if_neg c]
      show nxt (fxN.getD a none) (aln ν a) = nxt (fxN.getD a none) (if a = msz ν + 57 then n else aln ν a)
      rw [if_neg c]
  have e3 : (fun a b => if a = msz ν + 57 then none else gR (fx ν) a b) = gR (fx (alx ν kd n sl)) := by
    funext a b
    by_cases c : a = msz ν + 57
    · rw [if_pos c, gR_fx _ _ (by omega)]
      exact (if_pos c).symm
    · rw [if_neg c]
      show nxo ((fxR.getD a []).getD b none) (gR ν a b) = nxo ((fxR.getD a []).getD b none) (if a = msz ν + 57 then none else gR ν a b)
      rw [if_neg c]
  have e4 : msz ν + 57 + 1 = msz ν + 1 + 57 := by omega
  show (fun a => if a = msz ν + 57 then kd else shp (fx ν) a, fun a => if a = msz ν + 57 then n else aln (fx ν) a, msz ν + 57 + 1, msl ν + sl, _, _, fun a b => if a = msz ν + 57 then none else gR (fx ν) a b) = _
  rw [e1, e2, e3, e4]
  rfl
/-! small numbers -/
theorem inb_O {i n : Nat} (h : i < n) (hn : n ≤ 100000) : inb (Int32.ofNat i) n = true := by
  have h1 : (Int32.ofNat i).toNatClampNeg = i := Int32.toNatClampNeg_ofNat_of_lt (by omega)
  have h2 : ¬ Int32.ofNat i < 0 := by
    intro c
    have := Int32.zero_le_ofNat_of_lt (a := i) (by omega)
    exact absurd c (Int32.not_lt.mpr this)
  unfold inb
  rw [h1, decide_eq_false h2, decide_eq_true h]
  rfl
theorem tn_O {i : Nat} (h : i ≤ 1000000) : (Int32.ofNat i).toNatClampNeg = i := Int32.toNatClampNeg_ofNat_of_lt (by omega)
theorem O_lt {a b : Nat} (ha : a ≤ 1000000) (hb : b ≤ 1000000) : (Int32.ofNat a < Int32.ofNat b) = (a < b) := propext (Int32.ofNat_lt_iff_lt (by omega) (by omega))
theorem O_le {a b : Nat} (ha : a ≤ 1000000) (hb : b ≤ 1000000) : (Int32.ofNat a ≤ Int32.ofNat b) = (a ≤ b) := propext (Int32.ofNat_le_iff_le (by omega) (by omega))
theorem O_eq {a b : Nat} (ha : a ≤ 1000000) (hb : b ≤ 1000000) : (Int32.ofNat a = Int32.ofNat b) = (a = b) := by
  apply propext
  constructor
  · intro h
    have := congrArg Int32.toNatClampNeg h
    rw [tn_O ha, tn_O hb] at this
    exact this
  · intro h; rw [h]
/-- an int between 0 and a small number is a small number -/
theorem O_of {x : Int32} {n : Nat} (h0 : ¬ x < 0) (h : x < Int32.ofNat n) (hn : n ≤ 1000000) : ∃ i, i < n ∧ x = Int32.ofNat i := by
  have h0 : 0 ≤ x := Int32.not_lt.mp h0
  refine ⟨x.toNatClampNeg, ?_, (Int32.ofNat_toNatClampNeg x h0).symm⟩
  rw [← Int32.ofNat_toNatClampNeg x h0] at h
  exact (Int32.ofNat_lt_iff_lt (Int32.toNatClampNeg_lt x) (by omega)).mp h
