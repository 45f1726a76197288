/-! all holds when the constructors are through -/
def Hi (μ : MM) : Prop := ∀ q, 57 ≤ q → shp μ q = 99
theorem Hi.al {μ : MM} {kd n s : Nat} (h : Hi μ) (hm : Nat.blt (msz μ) 57 = true) : Hi (alc μ kd n s) := fun q hq => by
  have hm := Nat.blt_eq.mp hm
  show (if q = msz μ then kd else shp μ q) = 99
  rw [if_neg (by omega)]
  exact h q hq
theorem Hi.sI {μ : MM} {a k : Nat} {v : Int32} (h : Hi μ) : Hi (sI μ a k v) := h
theorem Hi.sR {μ : MM} {a k : Nat} {v : Option Nat} (h : Hi μ) : Hi (sR μ a k v) := h
theorem hi_0 (xs : Nat → Int32) (L : Nat) : Hi (mu0 xs L) := fun q hq => by
  show (if q < 28 then roK q else 99) = 99
  rw [if_neg (by omega)]
theorem hi_1 (xs : Nat → Int32) (L : Nat) : Hi (k1 xs L) := Hi.al (Hi.al (hi_0 xs L) rfl) rfl
theorem hi_2 (xs : Nat → Int32) (L : Nat) : Hi (k2 xs L) := (Hi.al (Hi.al (Hi.al (Hi.al (hi_1 xs L) rfl).sR rfl).sR rfl).sR rfl).sR.sI
theorem hi_3 (xs : Nat → Int32) (L : Nat) : Hi (k3 xs L) := Hi.al (hi_2 xs L).sR rfl
theorem hi_4 (xs : Nat → Int32) (L : Nat) : Hi (k4 xs L) := (Hi.al (Hi.al (Hi.al (Hi.al (hi_3 xs L) rfl).sR rfl).sR rfl).sR rfl).sR.sI
theorem hi_5 (xs : Nat → Int32) (L : Nat) : Hi (k5 xs L) := Hi.al (hi_4 xs L).sR rfl
theorem hi_6 (xs : Nat → Int32) (L : Nat) : Hi (k6 xs L) := (Hi.al (Hi.al (hi_5 xs L) rfl).sR rfl).sR.sR.sR
theorem hi_7 (xs : Nat → Int32) (L : Nat) : Hi (k7 xs L) := Hi.al (hi_6 xs L).sR rfl
theorem hi_8 (xs : Nat → Int32) (L : Nat) : Hi (k8 xs L) := (Hi.al (hi_7 xs L) rfl).sR
theorem hi_9 (xs : Nat → Int32) (L : Nat) : Hi (k9 xs L) := (Hi.al (Hi.al (hi_8 xs L).sR rfl).sR rfl).sR
theorem hi_10 (xs : Nat → Int32) (L : Nat) : Hi (k10 xs L) := Hi.al (hi_9 xs L) rfl
theorem hi_11 (xs : Nat → Int32) (L : Nat) : Hi (k11 xs L) := (Hi.al (Hi.al (Hi.al (Hi.al (Hi.al (Hi.al (Hi.al (Hi.al (Hi.al (Hi.al (hi_10 xs L) rfl).sR rfl).sR rfl).sR rfl).sR rfl).sR rfl).sR rfl).sR rfl).sR rfl).sR rfl).sR.sI.sI
theorem fsh_nu0 (xs : Nat → Int32) (L : Nat) : Fsh (nu0 xs L) := fun q hq => hi_11 xs L q hq
theorem n_1 (xs : Nat → Int32) (L : Nat) : gI (nu0 xs L) 29 11 = -1 := rfl
theorem n_2 (xs : Nat → Int32) (L : Nat) : gI (nu0 xs L) 47 6 = -1 := rfl
theorem n_3 (xs : Nat → Int32) (L : Nat) : gI (nu0 xs L) 47 8 = -1 := rfl
theorem n_4 (xs : Nat → Int32) (L : Nat) : gR (nu0 xs L) 29 2 = some 31 := rfl
theorem n_26 (xs : Nat → Int32) (L : Nat) : gI (nu0 xs L) 26 = xs := rfl
theorem a_26 (xs : Nat → Int32) (L : Nat) : aln (fx (nu0 xs L)) 26 = L := rfl

theorem n29_1 (xs : Nat → Int32) (L : Nat) : gI (nu0 xs L) 29 1 = 0 := rfl
theorem n29_3 (xs : Nat → Int32) (L : Nat) : gI (nu0 xs L) 29 3 = 0 := rfl
theorem n29_5 (xs : Nat → Int32) (L : Nat) : gI (nu0 xs L) 29 5 = 0 := rfl
theorem n29_7 (xs : Nat → Int32) (L : Nat) : gI (nu0 xs L) 29 7 = 0 := rfl
theorem n29_8 (xs : Nat → Int32) (L : Nat) : gI (nu0 xs L) 29 8 = 0 := rfl
theorem n29_9 (xs : Nat → Int32) (L : Nat) : gI (nu0 xs L) 29 9 = 0 := rfl
theorem n29_10 (xs : Nat → Int32) (L : Nat) : gI (nu0 xs L) 29 10 = 0 := rfl
theorem n29_12 (xs : Nat → Int32) (L : Nat) : gI (nu0 xs L) 29 12 = 0 := rfl
theorem n29_14 (xs : Nat → Int32) (L : Nat) : gI (nu0 xs L) 29 14 = 0 := rfl
theorem n47_0 (xs : Nat → Int32) (L : Nat) : gI (nu0 xs L) 47 0 = 0 := rfl
theorem n47_1 (xs : Nat → Int32) (L : Nat) : gI (nu0 xs L) 47 1 = 0 := rfl
theorem n47_2 (xs : Nat → Int32) (L : Nat) : gI (nu0 xs L) 47 2 = 0 := rfl
theorem n47_3 (xs : Nat → Int32) (L : Nat) : gI (nu0 xs L) 47 3 = 0 := rfl
theorem n47_4 (xs : Nat → Int32) (L : Nat) : gI (nu0 xs L) 47 4 = 0 := rfl
theorem n47_5 (xs : Nat → Int32) (L : Nat) : gI (nu0 xs L) 47 5 = 0 := rfl
theorem n47_7 (xs : Nat → Int32) (L : Nat) : gI (nu0 xs L) 47 7 = 0 := rfl
theorem n47_9 (xs : Nat → Int32) (L : Nat) : gI (nu0 xs L) 47 9 = 0 := rfl
theorem r_30 (xs : Nat → Int32) (L : Nat) (k : Nat) : gI (nu0 xs L) 30 k = 0 := rfl
theorem r_35 (xs : Nat → Int32) (L : Nat) (k : Nat) : gI (nu0 xs L) 35 k = 0 := rfl
theorem r_43 (xs : Nat → Int32) (L : Nat) (k : Nat) : gI (nu0 xs L) 43 k = 0 := rfl
theorem r_50 (xs : Nat → Int32) (L : Nat) (k : Nat) : gI (nu0 xs L) 50 k = 0 := rfl
theorem r_56 (xs : Nat → Int32) (L : Nat) (k : Nat) : gI (nu0 xs L) 56 k = 0 := rfl
theorem rr_32 (xs : Nat → Int32) (L : Nat) (k : Nat) : gR (nu0 xs L) 32 k = none := rfl
theorem rr_33 (xs : Nat → Int32) (L : Nat) (k : Nat) : gR (nu0 xs L) 33 k = none := rfl
theorem rr_37 (xs : Nat → Int32) (L : Nat) (k : Nat) : gR (nu0 xs L) 37 k = none := rfl
theorem rr_38 (xs : Nat → Int32) (L : Nat) (k : Nat) : gR (nu0 xs L) 38 k = none := rfl
theorem x_28_6 (xs : Nat → Int32) (L : Nat) : gI (nu0 xs L) 28 6 = 0 := rfl
theorem x_46_3 (xs : Nat → Int32) (L : Nat) : gI (nu0 xs L) 46 3 = 0 := rfl
theorem x_42_1 (xs : Nat → Int32) (L : Nat) : gI (nu0 xs L) 42 1 = 0 := rfl
theorem x_46_21 (xs : Nat → Int32) (L : Nat) : gI (nu0 xs L) 46 21 = 0 := rfl
theorem str_nu0 (xs : Nat → Int32) (L : Nat) : Str (nu0 xs L)
  | 0, _ => ⟨rfl, fun _ => rfl⟩
  | 1, _ => ⟨rfl, fun _ => rfl⟩
  | 2, _ => ⟨rfl, fun _ => rfl⟩
  | 3, _ => ⟨rfl, fun _ => rfl⟩
  | 4, _ => ⟨rfl, fun _ => rfl⟩
  | 5, _ => ⟨rfl, fun _ => rfl⟩
  | 6, _ => ⟨rfl, fun _ => rfl⟩
  | 7, _ => ⟨rfl, fun _ => rfl⟩
  | 8, _ => ⟨rfl, fun _ => rfl⟩
  | 9, _ => ⟨rfl, fun _ => rfl⟩
  | 10, _ => ⟨rfl, fun _ => rfl⟩
  | 11, _ => ⟨rfl, fun _ => rfl⟩
  | 12, _ => ⟨rfl, fun _ => rfl⟩
  | n + 13, h => absurd h (by omega)
