/-! THE CONSTRUCTORS: the memory that they leave -/
def cW (μ : MM) (a z : Nat) : MM := sI (sR (alc (sR (alc (sR (alc (sR (alc μ 23 100 100) a 0 (some z)) 24 0 0) a 2 (some (z + 1))) 24 5 5) a 4 (some (z + 2))) 25 5 5) a 6 (some (z + 3))) a 11 (-1)
def k0 (xs : Nat → Int32) (L : Nat) : MM := alc (mu0 xs L) 11 0 7
def k1 (xs : Nat → Int32) (L : Nat) : MM := alc (k0 xs L) 10 0 15
def k2 (xs : Nat → Int32) (L : Nat) : MM := cW (k1 xs L) 29 30
def k3 (xs : Nat → Int32) (L : Nat) : MM := alc (sR (k2 xs L) 28 0 (some 29)) 10 0 15
def k4 (xs : Nat → Int32) (L : Nat) : MM := cW (k3 xs L) 34 35
def k5 (xs : Nat → Int32) (L : Nat) : MM := alc (sR (k4 xs L) 28 1 (some 34)) 5 0 6
def k6 (xs : Nat → Int32) (L : Nat) : MM := sR (sR (sR (alc (sR (alc (k5 xs L) 24 10 10) 39 1 (some 40)) 20 100 100) 39 2 (some 41)) 39 4 (some 0)) 39 0 (some 29)
def k7 (xs : Nat → Int32) (L : Nat) : MM := alc (sR (k6 xs L) 28 2 (some 39)) 9 0 2
def k8 (xs : Nat → Int32) (L : Nat) : MM := sR (alc (k7 xs L) 20 20 20) 42 0 (some 43)
def k9 (xs : Nat → Int32) (L : Nat) : MM := sR (alc (sR (alc (sR (k8 xs L) 28 3 (some 42)) 21 4 4) 28 4 (some 44)) 22 256 256) 28 5 (some 45)
def k10 (xs : Nat → Int32) (L : Nat) : MM := alc (k9 xs L) 12 0 25
def cA (μ : MM) (kd n k z : Nat) : MM := sR (alc μ kd n n) 46 k (some z)
def k11 (xs : Nat → Int32) (L : Nat) : MM := sI (sI (cA (cA (cA (cA (cA (cA (cA (cA (cA (cA (k10 xs L) 20 1562 1 47) 20 1562 2 48) 20 5 10 49) 22 64 11 50) 21 16 15 51) 21 4 16 52) 20 4 17 53) 20 16 18 54) 22 256 19 55) 20 20 20 56) 47 6 (-1)) 47 8 (-1)
set_option maxRecDepth 100000 in
theorem c_l0 (d : Nat) (xs : Nat → Int32) (L : Nat) : ev (d + 1) 209 0 [.ref 26] [] (mu0 xs L) = bnd 0 (ev d 62 0 [.ref 28] [] (k0 xs L)) fun rs μ1 => ev (d + 1) 209 1 [.ref 26] (rs ++ [.ref 28]) μ1 := (ev_eq ..).trans rfl
set_option maxRecDepth 100000 in
theorem c_a0 (d : Nat) (xs : Nat → Int32) (L : Nat) : ev (d + 1) 62 0 [.ref 28] [] (k0 xs L) = bnd 0 (ev d 47 0 [.ref 29] [] (k1 xs L)) fun rs μ1 => ev (d + 1) 62 1 [.ref 28] (rs ++ [.ref 29, .ref 28]) μ1 := (ev_eq ..).trans rfl
set_option maxRecDepth 100000 in
theorem c_w1 (d : Nat) (xs : Nat → Int32) (L : Nat) : ev d 47 0 [.ref 29] [] (k1 xs L) = some (none, k2 xs L) := (ev_eq ..).trans rfl
set_option maxRecDepth 100000 in
theorem c_a1 (d : Nat) (xs : Nat → Int32) (L : Nat) : ev (d + 1) 62 1 [.ref 28] [.ref 29, .ref 28] (k2 xs L) = bnd 0 (ev d 47 0 [.ref 34] [] (k3 xs L)) fun rs μ1 => ev (d + 1) 62 2 [.ref 28] (rs ++ [.ref 34, .ref 28]) μ1 := (ev_eq ..).trans rfl
set_option maxRecDepth 100000 in
theorem c_w2 (d : Nat) (xs : Nat → Int32) (L : Nat) : ev d 47 0 [.ref 34] [] (k3 xs L) = some (none, k4 xs L) := (ev_eq ..).trans rfl
set_option maxRecDepth 100000 in
theorem c_a2 (d : Nat) (xs : Nat → Int32) (L : Nat) : ev (d + 1) 62 2 [.ref 28] [.ref 34, .ref 28] (k4 xs L) = bnd 0 (ev d 17 0 [.ref 39, .ref 29] [] (k5 xs L)) fun rs μ1 => ev (d + 1) 62 3 [.ref 28] (rs ++ [.ref 39, .ref 28]) μ1 := (ev_eq ..).trans rfl
set_option maxRecDepth 100000 in
theorem c_r (d : Nat) (xs : Nat → Int32) (L : Nat) : ev d 17 0 [.ref 39, .ref 29] [] (k5 xs L) = some (none, k6 xs L) := (ev_eq ..).trans rfl
set_option maxRecDepth 100000 in
theorem c_a3 (d : Nat) (xs : Nat → Int32) (L : Nat) : ev (d + 1) 62 3 [.ref 28] [.ref 39, .ref 28] (k6 xs L) = bnd 0 (ev d 45 0 [.ref 42] [] (k7 xs L)) fun rs μ1 => ev (d + 1) 62 4 [.ref 28] (rs ++ [.ref 42, .ref 28]) μ1 := (ev_eq ..).trans rfl
set_option maxRecDepth 100000 in
theorem c_t (d : Nat) (xs : Nat → Int32) (L : Nat) : ev d 45 0 [.ref 42] [] (k7 xs L) = some (none, k8 xs L) := (ev_eq ..).trans rfl
set_option maxRecDepth 100000 in
theorem c_a4 (d : Nat) (xs : Nat → Int32) (L : Nat) : ev d 62 4 [.ref 28] [.ref 42, .ref 28] (k8 xs L) = some (none, k9 xs L) := (ev_eq ..).trans rfl
set_option maxRecDepth 100000 in
theorem c_l1 (d : Nat) (xs : Nat → Int32) (L : Nat) : ev (d + 1) 209 1 [.ref 26] [.ref 28] (k9 xs L) = bnd 0 (ev d 112 0 [.ref 46] [] (k10 xs L)) fun rs μ1 => ev (d + 1) 209 2 [.ref 26, .ref 28] (rs ++ [.ref 46]) μ1 := (ev_eq ..).trans rfl
set_option maxRecDepth 100000 in
theorem c_m (d : Nat) (xs : Nat → Int32) (L : Nat) : ev d 112 0 [.ref 46] [] (k10 xs L) = some (none, k11 xs L) := (ev_eq ..).trans rfl
set_option maxRecDepth 100000 in
theorem c_l2 (d : Nat) (xs : Nat → Int32) (L : Nat) : ev d 209 2 [.ref 26, .ref 28] [.ref 46] (k11 xs L) = ev d 209 3 [.ref 26, .ref 28, .ref 46, .int 0] [] (k11 xs L) := (ev_eq ..).trans rfl
theorem c_all (d : Nat) (xs : Nat → Int32) (L : Nat) : ev (d + 3) 209 0 [.ref 26] [] (mu0 xs L) = ev (d + 3) 209 3 [.ref 26, .ref 28, .ref 46, .int 0] [] (k11 xs L) := by
  rw [c_l0, c_a0, c_w1, bnd_0, app0, c_a1, c_w2, bnd_0, app0, c_a2, c_r, bnd_0, app0, c_a3, c_t, bnd_0, app0, c_a4, bnd_0, app0, c_l1, c_m, bnd_0, app0, c_l2]
