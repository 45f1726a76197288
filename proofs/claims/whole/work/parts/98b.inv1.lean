/-! Inv at the start of the law's loop -/
theorem neg1_O (a : Nat) (h : a < 5) : ¬ (-1 : Int32) = Int32.ofNat a := by
  have q : ∀ a, a < 5 → ¬ (-1 : Int32) = Int32.ofNat a := by decide
  exact q a h
theorem inv_nu0 (xs : Nat → Int32) (L : Nat) : Inv (nu0 xs L) := by
  have hd : okHd (-1) 0 := ⟨Or.inl rfl, 0, by decide, rfl⟩
  have cA : CoA (nu0 xs L) 31 [] := by
    refine ⟨?_, ?_, Nat.zero_le _, fun j hj => absurd hj (Nat.not_lt_zero j)⟩
    · rw [fx_nu0]; rfl
    · rw [fx_nu0]; rfl
  have wr : WR (nu0 xs L) 29 30 32 33 47 := by
    refine ⟨31, 0, 0, 0, 0, 0, 0, 0, 0, -1, 0, [], ⟨⟨n29_8 xs L, n47_0 xs L, Nat.zero_le _⟩, ⟨n29_9 xs L, by decide, fun t ht => absurd ht (Nat.not_lt_zero t)⟩, ⟨n29_10 xs L, n47_7 xs L, by decide⟩, ⟨n_1 xs L, n_3 xs L⟩, ⟨n29_12 xs L, n47_9 xs L⟩, hd⟩, ⟨n29_1 xs L, n47_5 xs L, by decide, fun i hi => absurd hi (Nat.not_lt_zero i)⟩, ⟨n29_14 xs L, n47_4 xs L, by decide, fun i hi => absurd hi (Nat.not_lt_zero i)⟩, ⟨⟨n_4 xs L, ⟨cA, fun _ => rfl⟩, ⟨fun c hc => (by cases hc), by decide, fun c hc => (by cases hc)⟩, Or.inl ⟨n_2 xs L, rfl⟩⟩, n29_3 xs L, n47_3 xs L, by decide, fun a ha e => ?_⟩, ⟨n29_5 xs L, n47_2 xs L, by decide, fun k hk => absurd hk (Nat.not_lt_zero k)⟩, ⟨n29_7 xs L, n47_1 xs L, by decide, fun k hk => absurd hk (Nat.not_lt_zero k)⟩⟩
    rw [n_2] at e
    exact absurd e (neg1_O a ha)
  refine ⟨wr, ⟨false, x_28_6 xs L, x_46_3 xs L, fun h => by cases h⟩, ?_, ⟨0, by decide, x_42_1 xs L, x_46_21 xs L, fun i _ => by rw [r_43, r_56]⟩, str_nu0 xs L, fsh_nu0 xs L, fun k _ => ⟨fun c hc => ?_, fun c hc => ?_⟩, fun k _ => ⟨fun c hc => ?_, fun c hc => ?_⟩, fun i _ => ⟨0, by decide, r_30 xs L i⟩, fun i _ => ⟨0, by decide, r_35 xs L i⟩⟩
  · rw [r_50]; rfl
  · rw [rr_32] at hc; cases hc
  · rw [rr_33] at hc; cases hc
  · rw [rr_37] at hc; cases hc
  · rw [rr_38] at hc; cases hc
