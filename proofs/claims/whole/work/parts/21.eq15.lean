/-! block equations: methods 188 to 208 -/
theorem e_188_0 (d : Nat) (v1 : Int32) (ν : MM) : ev (d + 1) 188 0 [.ref 46, .int v1] [] (fx ν) = bnd 0 (ev d 182 0 [.ref 46, .int 3] [] (fx ν)) fun rs μ1 => ev (d + 1) 188 1 [.ref 46, .int v1] (rs ++ []) μ1 := (ev_eq ..).trans rfl
theorem e_188_1 (d : Nat) (v1 : Int32) (ν : MM) : ev (d + 1) 188 1 [.ref 46, .int v1] [] (fx ν) = bnd 1 (ev d 187 0 [.ref 46, .int v1] [] (fx ν)) fun rs μ1 => ev (d + 1) 188 2 [] (rs ++ []) μ1 := (ev_eq ..).trans rfl
theorem e_188_2 (d : Nat) (s0 : Int32) (ν : MM) : ev d 188 2 [] [.int s0] (fx ν) = some (some (.int (s0 * 2)), (fx ν)) := (ev_eq ..).trans rfl
theorem e_189_0 (d : Nat) (v1 : Int32) (ν : MM) : ev (d + 1) 189 0 [.ref 46, .int v1] [] (fx ν) = bnd 1 (ev d 183 0 [.int (gI ν 46 22), .int 3] [] (fx ν)) fun rs μ1 => ev (d + 1) 189 1 [.ref 46, .int v1] (rs ++ []) μ1 := (ev_eq ..).trans rfl
theorem e_189_1 (d : Nat) (v1 : Int32) (s0 : Int32) (ν : MM) : ev d 189 1 [.ref 46, .int v1] [.int s0] (fx ν) = if s0 = 0 then (ev d 189 5 [.ref 46, .int v1] [] (fx ν)) else (ev d 189 2 [.ref 46, .int v1] [] (fx ν)) := (ev_eq ..).trans rfl
theorem e_189_5 (d : Nat) (v1 : Int32) (ν : MM) : ev d 189 5 [.ref 46, .int v1] [] (fx ν) = if (gI ν 46 22) = (4 : Int32) then (ev d 189 6 [.ref 46, .int v1] [] (fx ν)) else (ev d 189 10 [.ref 46, .int v1] [] (fx ν)) := (ev_eq ..).trans rfl
theorem e_189_2 (d : Nat) (v1 : Int32) (ν : MM) : ev (d + 1) 189 2 [.ref 46, .int v1] [] (fx ν) = bnd 0 (ev d 182 0 [.ref 46, .int 31] [] (fx ν)) fun rs μ1 => ev (d + 1) 189 3 [.ref 46, .int v1] (rs ++ []) μ1 := (ev_eq ..).trans rfl
theorem e_189_6 (d : Nat) (v1 : Int32) (ν : MM) : ev (d + 1) 189 6 [.ref 46, .int v1] [] (fx ν) = bnd 0 (ev d 182 0 [.ref 46, .int 41] [] (fx ν)) fun rs μ1 => ev (d + 1) 189 7 [.ref 46, .int v1] (rs ++ []) μ1 := (ev_eq ..).trans rfl
theorem e_189_10 (d : Nat) (v1 : Int32) (ν : MM) : ev (d + 1) 189 10 [.ref 46, .int v1] [] (fx ν) = bnd 1 (ev d 188 0 [.ref 46, .int v1] [] (fx ν)) fun rs μ1 => ev (d + 1) 189 11 [] (rs ++ []) μ1 := (ev_eq ..).trans rfl
theorem e_189_3 (d : Nat) (v1 : Int32) (ν : MM) : ev (d + 1) 189 3 [.ref 46, .int v1] [] (fx ν) = bnd 1 (ev d 188 0 [.ref 46, .int v1] [] (fx ν)) fun rs μ1 => ev (d + 1) 189 4 [] (rs ++ []) μ1 := (ev_eq ..).trans rfl
theorem e_189_7 (d : Nat) (v1 : Int32) (ν : MM) : ev (d + 1) 189 7 [.ref 46, .int v1] [] (fx ν) = bnd 1 (ev d 188 0 [.ref 46, .int (v1 - 1)] [] (fx ν)) fun rs μ1 => ev (d + 1) 189 8 [.ref 46] (rs ++ []) μ1 := (ev_eq ..).trans rfl
theorem e_189_11 (d : Nat) (s0 : Int32) (ν : MM) : ev d 189 11 [] [.int s0] (fx ν) = some (some (.int s0), (fx ν)) := (ev_eq ..).trans rfl
theorem e_189_4 (d : Nat) (s0 : Int32) (ν : MM) : ev d 189 4 [] [.int s0] (fx ν) = some (some (.int (s0 ^^^ 7)), (fx ν)) := (ev_eq ..).trans rfl
theorem e_189_8 (d : Nat) (s0 : Int32) (ν : MM) : ev (d + 1) 189 8 [.ref 46] [.int s0] (fx ν) = bnd 1 (ev d 185 0 [.ref 46, .int 2] [] (fx ν)) fun rs μ1 => ev (d + 1) 189 9 [] (rs ++ [.int s0]) μ1 := (ev_eq ..).trans rfl
theorem e_189_9 (d : Nat) (s0 : Int32) (s1 : Int32) (ν : MM) : ev d 189 9 [] [.int s0, .int s1] (fx ν) = some (some (.int (s1 + s0)), (fx ν)) := (ev_eq ..).trans rfl
theorem e_190_0 (d : Nat) (v1 : Int32) (v2 : Int32) (v3 : Int32) (ν : MM) : ev (d + 1) 190 0 [.ref 46, .int v1, .int v2, .int v3] [] (fx ν) = bnd 1 (ev d 115 0 [.ref 46, .int v1] [] (fx (sI ν 46 21 0))) fun rs μ1 => ev (d + 1) 190 1 [.ref 46, .int v1, .int v2, .int v3] (rs ++ []) μ1 := (ev_eq ..).trans rfl
theorem e_190_1 (d : Nat) (v1 : Int32) (v2 : Int32) (v3 : Int32) (s0 : Int32) (ν : MM) : ev d 190 1 [.ref 46, .int v1, .int v2, .int v3] [.int s0] (fx ν) = if s0 = 0 then (ev d 190 4 [] [] (fx ν)) else (ev d 190 2 [.ref 46, .int v1, .int v2, .int v3] [] (fx ν)) := (ev_eq ..).trans rfl
theorem e_190_4 (d : Nat) (ν : MM) : ev d 190 4 [] [] (fx ν) = some (some (.int 0), (fx ν)) := (ev_eq ..).trans rfl
theorem e_190_2 (d : Nat) (v1 : Int32) (v2 : Int32) (v3 : Int32) (ν : MM) : ev (d + 1) 190 2 [.ref 46, .int v1, .int v2, .int v3] [] (fx ν) = bnd 1 (ev d 113 0 [.int v2, .int 0, .int 2] [] (fx ν)) fun rs μ1 => ev (d + 1) 190 3 [.ref 46, .int v1, .int v2, .int v3] (rs ++ []) μ1 := (ev_eq ..).trans rfl
theorem e_190_3 (d : Nat) (v1 : Int32) (v2 : Int32) (v3 : Int32) (s0 : Int32) (ν : MM) : ev d 190 3 [.ref 46, .int v1, .int v2, .int v3] [.int s0] (fx ν) = if s0 = 0 then (ev d 190 4 [] [] (fx ν)) else (ev d 190 5 [.ref 46, .int v1, .int v2, .int v3] [] (fx ν)) := (ev_eq ..).trans rfl
set_option maxRecDepth 100000 in
theorem e_190_5 (d : Nat) (v1 : Int32) (v2 : Int32) (v3 : Int32) (ν : MM) : ev d 190 5 [.ref 46, .int v1, .int v2, .int v3] [] (fx ν) = gd (inb ((14 : Int32) + v1) 1562) (gd (inb ((19 : Int32) + v1) 1562) (if v2 = 0 then (ev d 190 6 [.ref 46, .int v3] [] (fx (sI (sI (sI ν 46 22 (gI ν 47 (((14 : Int32) + v1) : Int32).toNatClampNeg)) 46 23 v1) 46 24 (gI (sI (sI ν 46 22 (gI ν 47 (((14 : Int32) + v1) : Int32).toNatClampNeg)) 46 23 v1) 47 (((19 : Int32) + v1) : Int32).toNatClampNeg)))) else (ev d 190 8 [.ref 46, .int v2, .int v3] [] (fx (sI (sI (sI ν 46 22 (gI ν 47 (((14 : Int32) + v1) : Int32).toNatClampNeg)) 46 23 v1) 46 24 (gI (sI (sI ν 46 22 (gI ν 47 (((14 : Int32) + v1) : Int32).toNatClampNeg)) 46 23 v1) 47 (((19 : Int32) + v1) : Int32).toNatClampNeg)))))) := (ev_eq ..).trans rfl
theorem e_190_6 (d : Nat) (v3 : Int32) (ν : MM) : ev (d + 1) 190 6 [.ref 46, .int v3] [] (fx ν) = bnd 1 (ev d 185 0 [.ref 46, .int v3] [] (fx ν)) fun rs μ1 => ev (d + 1) 190 7 [] (rs ++ []) μ1 := (ev_eq ..).trans rfl
theorem e_190_8 (d : Nat) (v2 : Int32) (v3 : Int32) (ν : MM) : ev d 190 8 [.ref 46, .int v2, .int v3] [] (fx ν) = if v2 = (1 : Int32) then (ev d 190 9 [.ref 46, .int v3] [] (fx ν)) else (ev d 190 11 [.ref 46, .int v3] [] (fx ν)) := (ev_eq ..).trans rfl
theorem e_190_7 (d : Nat) (s0 : Int32) (ν : MM) : ev d 190 7 [] [.int s0] (fx ν) = ev d 190 12 [] [.int s0] (fx ν) := (ev_eq ..).trans rfl
theorem e_190_9 (d : Nat) (v3 : Int32) (ν : MM) : ev (d + 1) 190 9 [.ref 46, .int v3] [] (fx ν) = bnd 1 (ev d 187 0 [.ref 46, .int v3] [] (fx ν)) fun rs μ1 => ev (d + 1) 190 10 [] (rs ++ []) μ1 := (ev_eq ..).trans rfl
theorem e_190_11 (d : Nat) (v3 : Int32) (ν : MM) : ev (d + 1) 190 11 [.ref 46, .int v3] [] (fx ν) = bnd 1 (ev d 189 0 [.ref 46, .int v3] [] (fx ν)) fun rs μ1 => ev (d + 1) 190 12 [] (rs ++ []) μ1 := (ev_eq ..).trans rfl
theorem e_190_12 (d : Nat) (s0 : Int32) (ν : MM) : ev d 190 12 [] [.int s0] (fx ν) = some (some (.int s0), (fx ν)) := (ev_eq ..).trans rfl
theorem e_190_10 (d : Nat) (s0 : Int32) (ν : MM) : ev d 190 10 [] [.int s0] (fx ν) = ev d 190 12 [] [.int s0] (fx ν) := (ev_eq ..).trans rfl
theorem e_191_0 (d : Nat) (v1 : Int32) (ν : MM) : ev d 191 0 [.ref 46, .int v1] [] (fx ν) = if (20 : Int32) ≤ (gI ν 46 21) then (ev d 191 2 [.ref 46, .int v1] [.int 0, .int v1] (fx ν)) else (ev d 191 1 [.ref 46, .int v1] [.int 0, .int v1] (fx ν)) := (ev_eq ..).trans rfl
theorem e_191_2 (d : Nat) (v1 : Int32) (s0 : Int32) (s1 : Int32) (ν : MM) : ev d 191 2 [.ref 46, .int v1] [.int s0, .int s1] (fx ν) = ev d 191 3 [.ref 46, .int v1] [.int 20, .int s0, .int s1] (fx ν) := (ev_eq ..).trans rfl
theorem e_191_1 (d : Nat) (v1 : Int32) (s0 : Int32) (s1 : Int32) (ν : MM) : ev d 191 1 [.ref 46, .int v1] [.int s0, .int s1] (fx ν) = ev d 191 3 [.ref 46, .int v1] [.int (gI ν 46 21), .int s0, .int s1] (fx ν) := (ev_eq ..).trans rfl
theorem e_191_3 (d : Nat) (v1 : Int32) (s0 : Int32) (s1 : Int32) (s2 : Int32) (ν : MM) : ev (d + 1) 191 3 [.ref 46, .int v1] [.int s0, .int s1, .int s2] (fx ν) = bnd 1 (ev d 113 0 [.int s2, .int s1, .int (s0 - 1)] [] (fx ν)) fun rs μ1 => ev (d + 1) 191 4 [.ref 46, .int v1] (rs ++ []) μ1 := (ev_eq ..).trans rfl
theorem e_191_4 (d : Nat) (v1 : Int32) (s0 : Int32) (ν : MM) : ev d 191 4 [.ref 46, .int v1] [.int s0] (fx ν) = if s0 = 0 then (ev d 191 6 [] [] (fx ν)) else (ev d 191 5 [.ref 46, .int v1] [] (fx ν)) := (ev_eq ..).trans rfl
theorem e_191_6 (d : Nat) (ν : MM) : ev d 191 6 [] [] (fx ν) = ev d 191 7 [] [.int (-1)] (fx ν) := (ev_eq ..).trans rfl
theorem e_191_5 (d : Nat) (v1 : Int32) (ν : MM) : ev d 191 5 [.ref 46, .int v1] [] (fx ν) = gd (inb v1 20) (ev d 191 7 [] [.int (gI ν 56 (v1 : Int32).toNatClampNeg)] (fx ν)) := (ev_eq ..).trans rfl
theorem e_191_7 (d : Nat) (s0 : Int32) (ν : MM) : ev d 191 7 [] [.int s0] (fx ν) = some (some (.int s0), (fx ν)) := (ev_eq ..).trans rfl
theorem e_192_0 (d : Nat) (v1 : Int32) (v2 : Int32) (ν : MM) : ev (d + 1) 192 0 [.ref 46, .int v1, .int v2] [] (fx ν) = bnd 1 (ev d 115 0 [.ref 46, .int v1] [] (fx ν)) fun rs μ1 => ev (d + 1) 192 1 [.ref 46, .int v1, .int v2] (rs ++ []) μ1 := (ev_eq ..).trans rfl
theorem e_192_1 (d : Nat) (v1 : Int32) (v2 : Int32) (s0 : Int32) (ν : MM) : ev d 192 1 [.ref 46, .int v1, .int v2] [.int s0] (fx ν) = if s0 = 0 then (ev d 192 4 [] [] (fx ν)) else (ev d 192 2 [.ref 46, .int v1, .int v2] [] (fx ν)) := (ev_eq ..).trans rfl
theorem e_192_4 (d : Nat) (ν : MM) : ev d 192 4 [] [] (fx ν) = some (some (.int (-1)), (fx ν)) := (ev_eq ..).trans rfl
theorem e_192_2 (d : Nat) (v1 : Int32) (v2 : Int32) (ν : MM) : ev (d + 1) 192 2 [.ref 46, .int v1, .int v2] [] (fx ν) = bnd 1 (ev d 113 0 [.int v2, .int 0, .int 6] [] (fx ν)) fun rs μ1 => ev (d + 1) 192 3 [.ref 46, .int v1, .int v2] (rs ++ []) μ1 := (ev_eq ..).trans rfl
theorem e_192_3 (d : Nat) (v1 : Int32) (v2 : Int32) (s0 : Int32) (ν : MM) : ev d 192 3 [.ref 46, .int v1, .int v2] [.int s0] (fx ν) = if s0 = 0 then (ev d 192 4 [] [] (fx ν)) else (ev d 192 5 [.ref 46, .int v1, .int v2] [] (fx ν)) := (ev_eq ..).trans rfl
theorem e_192_5 (d : Nat) (v1 : Int32) (v2 : Int32) (ν : MM) : ev (d + 1) 192 5 [.ref 46, .int v1, .int v2] [] (fx ν) = gd (inb ((14 : Int32) + v1) 1562) (bnd 1 (ev d 183 0 [.int (gI ν 47 (((14 : Int32) + v1) : Int32).toNatClampNeg), .int v2] [] (fx ν)) fun rs μ1 => ev (d + 1) 192 6 [.ref 46, .int v1] (rs ++ []) μ1) := (ev_eq ..).trans rfl
theorem e_192_6 (d : Nat) (v1 : Int32) (s0 : Int32) (ν : MM) : ev d 192 6 [.ref 46, .int v1] [.int s0] (fx ν) = if s0 = 0 then (ev d 192 8 [] [] (fx ν)) else (ev d 192 7 [.ref 46, .int v1] [] (fx ν)) := (ev_eq ..).trans rfl
theorem e_192_8 (d : Nat) (ν : MM) : ev d 192 8 [] [] (fx ν) = ev d 192 9 [] [.int (-6)] (fx ν) := (ev_eq ..).trans rfl
theorem e_192_7 (d : Nat) (v1 : Int32) (ν : MM) : ev d 192 7 [.ref 46, .int v1] [] (fx ν) = gd (inb ((19 : Int32) + v1) 1562) (ev d 192 9 [] [.int (gI ν 47 (((19 : Int32) + v1) : Int32).toNatClampNeg)] (fx ν)) := (ev_eq ..).trans rfl
theorem e_192_9 (d : Nat) (s0 : Int32) (ν : MM) : ev d 192 9 [] [.int s0] (fx ν) = some (some (.int s0), (fx ν)) := (ev_eq ..).trans rfl
theorem e_193_0 (d : Nat) (ν : MM) : ev d 193 0 [.ref 46] [] (fx ν) = ev d 193 1 [.ref 46, .int 0] [] (fx ν) := (ev_eq ..).trans rfl
theorem e_193_1 (d : Nat) (v1 : Int32) (ν : MM) : ev d 193 1 [.ref 46, .int v1] [] (fx ν) = if (1562 : Int32) ≤ v1 then (ev d 193 3 [.ref 46] [] (fx ν)) else (ev d 193 2 [.ref 46, .int v1] [] (fx ν)) := (ev_eq ..).trans rfl
theorem e_193_3 (d : Nat) (ν : MM) : ev d 193 3 [.ref 46] [] (fx ν) = some (some (.int (gI (sI ν 46 3 1) 47 0)), (fx (sI ν 46 3 1))) := (ev_eq ..).trans rfl
theorem e_193_2 (d : Nat) (v1 : Int32) (ν : MM) : ev d 193 2 [.ref 46, .int v1] [] (fx ν) = gd (inb v1 1562) (gd (inb v1 1562) (ev d 193 1 [.ref 46, .int (v1 + 1)] [] (fx (sI ν 48 (v1 : Int32).toNatClampNeg (gI ν 47 (v1 : Int32).toNatClampNeg))))) := (ev_eq ..).trans rfl
theorem e_194_0 (d : Nat) (ν : MM) : ev d 194 0 [.ref 46] [] (fx ν) = if (gI ν 46 3) = 0 then (ev d 194 1 [] [] (fx ν)) else (ev d 194 2 [.ref 46] [] (fx ν)) := (ev_eq ..).trans rfl
theorem e_194_1 (d : Nat) (ν : MM) : ev d 194 1 [] [] (fx ν) = some (some (.int (-3)), (fx ν)) := (ev_eq ..).trans rfl
theorem e_194_2 (d : Nat) (ν : MM) : ev d 194 2 [.ref 46] [] (fx ν) = ev d 194 3 [.ref 46, .int 0] [] (fx ν) := (ev_eq ..).trans rfl
theorem e_194_3 (d : Nat) (v1 : Int32) (ν : MM) : ev d 194 3 [.ref 46, .int v1] [] (fx ν) = if (1562 : Int32) ≤ v1 then (ev d 194 5 [.ref 46] [] (fx ν)) else (ev d 194 4 [.ref 46, .int v1] [] (fx ν)) := (ev_eq ..).trans rfl
theorem e_194_5 (d : Nat) (ν : MM) : ev d 194 5 [.ref 46] [] (fx ν) = some (some (.int (gI ν 47 0)), (fx ν)) := (ev_eq ..).trans rfl
theorem e_194_4 (d : Nat) (v1 : Int32) (ν : MM) : ev d 194 4 [.ref 46, .int v1] [] (fx ν) = gd (inb v1 1562) (gd (inb v1 1562) (ev d 194 3 [.ref 46, .int (v1 + 1)] [] (fx (sI ν 47 (v1 : Int32).toNatClampNeg (gI ν 48 (v1 : Int32).toNatClampNeg))))) := (ev_eq ..).trans rfl
theorem e_195_0 (d : Nat) (v1 : Int32) (ν : MM) : ev d 195 0 [.ref 46, .int v1] [] (fx ν) = if v1 = 0 then (ev d 195 1 [.ref 46] [] (fx ν)) else if v1 = 1 then (ev d 195 2 [.ref 46] [] (fx ν)) else if v1 = 2 then (ev d 195 3 [.ref 46] [] (fx ν)) else if v1 = 3 then (ev d 195 4 [.ref 46] [] (fx ν)) else if v1 = 4 then (ev d 195 5 [.ref 46] [] (fx ν)) else if v1 = 5 then (ev d 195 6 [.ref 46] [] (fx ν)) else if v1 = 6 then (ev d 195 7 [.ref 46] [] (fx ν)) else (ev d 195 8 [] [] (fx ν)) := (ev_eq ..).trans rfl
theorem e_195_1 (d : Nat) (ν : MM) : ev d 195 1 [.ref 46] [] (fx ν) = some (some (.int (gI ν 47 0)), (fx ν)) := (ev_eq ..).trans rfl
theorem e_195_2 (d : Nat) (ν : MM) : ev d 195 2 [.ref 46] [] (fx ν) = some (some (.int (gI ν 47 1)), (fx ν)) := (ev_eq ..).trans rfl
theorem e_195_3 (d : Nat) (ν : MM) : ev d 195 3 [.ref 46] [] (fx ν) = some (some (.int (gI ν 47 2)), (fx ν)) := (ev_eq ..).trans rfl
theorem e_195_4 (d : Nat) (ν : MM) : ev d 195 4 [.ref 46] [] (fx ν) = some (some (.int (gI ν 47 3)), (fx ν)) := (ev_eq ..).trans rfl
theorem e_195_5 (d : Nat) (ν : MM) : ev d 195 5 [.ref 46] [] (fx ν) = some (some (.int (gI ν 47 4)), (fx ν)) := (ev_eq ..).trans rfl
theorem e_195_6 (d : Nat) (ν : MM) : ev d 195 6 [.ref 46] [] (fx ν) = some (some (.int (gI ν 47 5)), (fx ν)) := (ev_eq ..).trans rfl
theorem e_195_7 (d : Nat) (ν : MM) : ev d 195 7 [.ref 46] [] (fx ν) = some (some (.int (gI ν 46 21)), (fx ν)) := (ev_eq ..).trans rfl
theorem e_195_8 (d : Nat) (ν : MM) : ev d 195 8 [] [] (fx ν) = some (some (.int (-1)), (fx ν)) := (ev_eq ..).trans rfl
theorem e_196_0 (d : Nat) (ν : MM) : ∀ (v0 : Nat), v0 < 13 → ev (d + 1) 196 0 [.ref v0] [] (fx ν) = gd (cin [20, 21, 22, 23, 24, 25, 31, 32] (shp (fx ν) (13 + v0))) (match Nat.beq (shp (fx ν) v0) 30 with | true => bnd 1 (ev d 200 0 [.ref v0] [] (fx ν)) fun rs μ1 => ev (d + 1) 196 1 [] (rs ++ [.int (Int32.ofNat (aln (fx ν) (13 + v0)))]) μ1 | false => (none))
  | 0, _ => (ev_eq ..).trans rfl
  | 1, _ => (ev_eq ..).trans rfl
  | 2, _ => (ev_eq ..).trans rfl
  | 3, _ => (ev_eq ..).trans rfl
  | 4, _ => (ev_eq ..).trans rfl
  | 5, _ => (ev_eq ..).trans rfl
  | 6, _ => (ev_eq ..).trans rfl
  | 7, _ => (ev_eq ..).trans rfl
  | 8, _ => (ev_eq ..).trans rfl
  | 9, _ => (ev_eq ..).trans rfl
  | 10, _ => (ev_eq ..).trans rfl
  | 11, _ => (ev_eq ..).trans rfl
  | 12, _ => (ev_eq ..).trans rfl
  | n + 13, h => absurd h (by omega)
theorem e_196_1 (d : Nat) (s0 : Int32) (s1 : Int32) (ν : MM) : ev d 196 1 [] [.int s0, .int s1] (fx ν) = some (some (.int (s1 >>> (s0 &&& 31))), (fx ν)) := (ev_eq ..).trans rfl
theorem e_197_0 (d : Nat) (v0 : Nat) (v1 : Int32) (ν : MM) : ev (d + 1) 197 0 [.ref v0, .int v1] [] (fx ν) = match Nat.beq (shp (fx ν) v0) 30 with | true => bnd 1 (ev d 201 0 [.ref v0] [] (fx ν)) fun rs μ1 => ev (d + 1) 197 1 [.ref v0, .int v1] (rs ++ []) μ1 | false => (none) := (ev_eq ..).trans rfl
theorem e_197_1 (d : Nat) (v0 : Nat) (v1 : Int32) (s0 : Int32) (ν : MM) : ev d 197 1 [.ref v0, .int v1] [.int s0] (fx ν) = if s0 = 0 then (ev d 197 4 [] [] (fx ν)) else (ev d 197 2 [.ref v0, .int v1] [] (fx ν)) := (ev_eq ..).trans rfl
theorem e_197_2 (d : Nat) (v1 : Int32) (ν : MM) : ∀ (v0 : Nat), v0 < 13 → ev (d + 1) 197 2 [.ref v0, .int v1] [] (fx ν) = bnd 1 (ev d 203 0 [.ref (13 + v0), .int v1] [] (fx ν)) fun rs μ1 => ev (d + 1) 197 3 [] (rs ++ []) μ1
  | 0, _ => (ev_eq ..).trans rfl
  | 1, _ => (ev_eq ..).trans rfl
  | 2, _ => (ev_eq ..).trans rfl
  | 3, _ => (ev_eq ..).trans rfl
  | 4, _ => (ev_eq ..).trans rfl
  | 5, _ => (ev_eq ..).trans rfl
  | 6, _ => (ev_eq ..).trans rfl
  | 7, _ => (ev_eq ..).trans rfl
  | 8, _ => (ev_eq ..).trans rfl
  | 9, _ => (ev_eq ..).trans rfl
  | 10, _ => (ev_eq ..).trans rfl
  | 11, _ => (ev_eq ..).trans rfl
  | 12, _ => (ev_eq ..).trans rfl
  | n + 13, h => absurd h (by omega)
theorem e_197_3 (d : Nat) (s0 : Int32) (ν : MM) : ev d 197 3 [] [.int s0] (fx ν) = gd (decide ((s0 : Int32).toUInt32.toUInt16.toUInt32.toInt32 = s0)) (some (some (.int s0), (fx ν))) := (ev_eq ..).trans rfl
theorem e_198_0 (d : Nat) (v0 : Nat) (v1 : Int32) (ν : MM) : ev (d + 1) 198 0 [.ref v0, .int v1] [] (fx ν) = match Nat.beq (shp (fx ν) v0) 30 with | true => bnd 1 (ev d 199 0 [.ref v0, .int v1, .int 0] [] (fx ν)) fun rs μ1 => ev (d + 1) 198 1 [] (rs ++ []) μ1 | false => (none) := (ev_eq ..).trans rfl
theorem e_198_1 (d : Nat) (s0 : Int32) (ν : MM) : ev d 198 1 [] [.int s0] (fx ν) = some (some (.int s0), (fx ν)) := (ev_eq ..).trans rfl
theorem e_199_0 (d : Nat) (v0 : Nat) (v1 : Int32) (v2 : Int32) (ν : MM) : ev (d + 1) 199 0 [.ref v0, .int v1, .int v2] [] (fx ν) = match Nat.beq (shp (fx ν) v0) 30 with | true => bnd 1 (ev d 201 0 [.ref v0] [] (fx ν)) fun rs μ1 => ev (d + 1) 199 1 [.ref v0, .int v1, .int v2] (rs ++ []) μ1 | false => (none) := (ev_eq ..).trans rfl
theorem e_199_1 (d : Nat) (v0 : Nat) (v1 : Int32) (v2 : Int32) (s0 : Int32) (ν : MM) : ev d 199 1 [.ref v0, .int v1, .int v2] [.int s0] (fx ν) = if s0 = 0 then (ev d 199 5 [.ref v0, .int v1, .int v2] [] (fx ν)) else (ev d 199 2 [.ref v0, .int v1, .int v2] [] (fx ν)) := (ev_eq ..).trans rfl
theorem e_199_5 (d : Nat) (v1 : Int32) (v2 : Int32) (ν : MM) : ∀ (v0 : Nat), v0 < 13 → ev (d + 1) 199 5 [.ref v0, .int v1, .int v2] [] (fx ν) = match Nat.beq (shp (fx ν) v0) 30 with | true => bnd 1 (ev d 196 0 [.ref v0] [] (fx ν)) fun rs μ1 => ev (d + 1) 199 6 [] (rs ++ [.int v2, .int v1, .ref (13 + v0)]) μ1 | false => (none)
  | 0, _ => (ev_eq ..).trans rfl
  | 1, _ => (ev_eq ..).trans rfl
  | 2, _ => (ev_eq ..).trans rfl
  | 3, _ => (ev_eq ..).trans rfl
  | 4, _ => (ev_eq ..).trans rfl
  | 5, _ => (ev_eq ..).trans rfl
  | 6, _ => (ev_eq ..).trans rfl
  | 7, _ => (ev_eq ..).trans rfl
  | 8, _ => (ev_eq ..).trans rfl
  | 9, _ => (ev_eq ..).trans rfl
  | 10, _ => (ev_eq ..).trans rfl
  | 11, _ => (ev_eq ..).trans rfl
  | 12, _ => (ev_eq ..).trans rfl
  | n + 13, h => absurd h (by omega)
theorem e_199_2 (d : Nat) (v1 : Int32) (v2 : Int32) (ν : MM) : ∀ (v0 : Nat), v0 < 13 → ev (d + 1) 199 2 [.ref v0, .int v1, .int v2] [] (fx ν) = match Nat.beq (shp (fx ν) v0) 30 with | true => bnd 1 (ev d 196 0 [.ref v0] [] (fx ν)) fun rs μ1 => ev (d + 1) 199 3 [] (rs ++ [.int v2, .int v1, .ref (13 + v0)]) μ1 | false => (none)
  | 0, _ => (ev_eq ..).trans rfl
  | 1, _ => (ev_eq ..).trans rfl
  | 2, _ => (ev_eq ..).trans rfl
  | 3, _ => (ev_eq ..).trans rfl
  | 4, _ => (ev_eq ..).trans rfl
  | 5, _ => (ev_eq ..).trans rfl
  | 6, _ => (ev_eq ..).trans rfl
  | 7, _ => (ev_eq ..).trans rfl
  | 8, _ => (ev_eq ..).trans rfl
  | 9, _ => (ev_eq ..).trans rfl
  | 10, _ => (ev_eq ..).trans rfl
  | 11, _ => (ev_eq ..).trans rfl
  | 12, _ => (ev_eq ..).trans rfl
  | n + 13, h => absurd h (by omega)
theorem e_199_3 (d : Nat) (s0 : Int32) (s1 : Int32) (s2 : Int32) (s3 : Nat) (ν : MM) : ev (d + 1) 199 3 [] [.int s0, .int s1, .int s2, .ref s3] (fx ν) = bnd 1 (ev d 205 0 [.ref s3, .int s2, .int s1, .int s0] [] (fx ν)) fun rs μ1 => ev (d + 1) 199 4 [] (rs ++ []) μ1 := (ev_eq ..).trans rfl
theorem e_199_4 (d : Nat) (s0 : Int32) (ν : MM) : ev d 199 4 [] [.int s0] (fx ν) = ev d 199 7 [] [.int s0] (fx ν) := (ev_eq ..).trans rfl
theorem e_199_7 (d : Nat) (s0 : Int32) (ν : MM) : ev d 199 7 [] [.int s0] (fx ν) = some (some (.int s0), (fx ν)) := (ev_eq ..).trans rfl
theorem e_200_0 (d : Nat) (v0 : Nat) (ν : MM) : ev d 200 0 [.ref v0] [] (fx ν) = if (1 : Int32) = 0 then (ev d 200 2 [] [] (fx ν)) else (ev d 200 1 [.ref v0] [] (fx ν)) := (ev_eq ..).trans rfl
theorem e_200_2 (d : Nat) (ν : MM) : ev d 200 2 [] [] (fx ν) = ev d 200 3 [] [.int 1] (fx ν) := (ev_eq ..).trans rfl
theorem e_200_1 (d : Nat) (ν : MM) : ∀ (v0 : Nat), v0 < 13 → ev d 200 1 [.ref v0] [] (fx ν) = ev d 200 3 [] [.int (gI ν v0 1)] (fx ν)
  | 0, _ => (ev_eq ..).trans rfl
  | 1, _ => (ev_eq ..).trans rfl
  | 2, _ => (ev_eq ..).trans rfl
  | 3, _ => (ev_eq ..).trans rfl
  | 4, _ => (ev_eq ..).trans rfl
  | 5, _ => (ev_eq ..).trans rfl
  | 6, _ => (ev_eq ..).trans rfl
  | 7, _ => (ev_eq ..).trans rfl
  | 8, _ => (ev_eq ..).trans rfl
  | 9, _ => (ev_eq ..).trans rfl
  | 10, _ => (ev_eq ..).trans rfl
  | 11, _ => (ev_eq ..).trans rfl
  | 12, _ => (ev_eq ..).trans rfl
  | n + 13, h => absurd h (by omega)
theorem e_200_3 (d : Nat) (s0 : Int32) (ν : MM) : ev d 200 3 [] [.int s0] (fx ν) = gd (decide ((s0 : Int32).toInt8.toInt32 = s0)) (some (some (.int s0), (fx ν))) := (ev_eq ..).trans rfl
theorem e_201_0 (d : Nat) (v0 : Nat) (ν : MM) : ev d 201 0 [.ref v0] [] (fx ν) = if (1 : Int32) = 0 then (ev d 201 3 [] [] (fx ν)) else (ev d 201 1 [.ref v0] [] (fx ν)) := (ev_eq ..).trans rfl
theorem e_201_3 (d : Nat) (ν : MM) : ev d 201 3 [] [] (fx ν) = ev d 201 4 [] [.int 0] (fx ν) := (ev_eq ..).trans rfl
theorem e_201_1 (d : Nat) (ν : MM) : ∀ (v0 : Nat), v0 < 13 → ev d 201 1 [.ref v0] [] (fx ν) = if (gI ν v0 1) = 0 then (ev d 201 2 [] [] (fx ν)) else (ev d 201 3 [] [] (fx ν))
  | 0, _ => (ev_eq ..).trans rfl
  | 1, _ => (ev_eq ..).trans rfl
  | 2, _ => (ev_eq ..).trans rfl
  | 3, _ => (ev_eq ..).trans rfl
  | 4, _ => (ev_eq ..).trans rfl
  | 5, _ => (ev_eq ..).trans rfl
  | 6, _ => (ev_eq ..).trans rfl
  | 7, _ => (ev_eq ..).trans rfl
  | 8, _ => (ev_eq ..).trans rfl
  | 9, _ => (ev_eq ..).trans rfl
  | 10, _ => (ev_eq ..).trans rfl
  | 11, _ => (ev_eq ..).trans rfl
  | 12, _ => (ev_eq ..).trans rfl
  | n + 13, h => absurd h (by omega)
theorem e_201_4 (d : Nat) (s0 : Int32) (ν : MM) : ev d 201 4 [] [.int s0] (fx ν) = gd (b01 s0) (some (some (.int s0), (fx ν))) := (ev_eq ..).trans rfl
theorem e_201_2 (d : Nat) (ν : MM) : ev d 201 2 [] [] (fx ν) = ev d 201 4 [] [.int 1] (fx ν) := (ev_eq ..).trans rfl
theorem e_202_0 (d : Nat) (v0 : Int32) (v1 : Int32) (ν : MM) : ev (d + 1) 202 0 [.int v0, .int v1] [] (fx ν) = bnd 1 (ev d 208 0 [.int v0, .int v1] [] (fx ν)) fun rs μ1 => ev (d + 1) 202 1 [] (rs ++ []) μ1 := (ev_eq ..).trans rfl
theorem e_202_1 (d : Nat) (s0 : Int32) (ν : MM) : ev d 202 1 [] [.int s0] (fx ν) = some (none, (fx ν)) := (ev_eq ..).trans rfl
theorem e_203_0 (d : Nat) (v0 : Nat) (v1 : Int32) (ν : MM) : ev (d + 1) 203 0 [.ref v0, .int v1] [] (fx ν) = gd (cin [20, 21, 22, 23, 24, 25, 31, 32] (shp (fx ν) v0)) (bnd 0 (ev d 202 0 [.int v1, .int (Int32.ofNat (aln (fx ν) v0))] [] (fx ν)) fun rs μ1 => ev (d + 1) 203 1 [.ref v0, .int v1] (rs ++ []) μ1) := (ev_eq ..).trans rfl
theorem e_203_1 (d : Nat) (v0 : Nat) (v1 : Int32) (ν : MM) : ev d 203 1 [.ref v0, .int v1] [] (fx ν) = gd (cin [22, 23, 31] (shp (fx ν) v0) && inb v1 (aln (fx ν) v0)) (gd (decide ((((((gI ν v0 (v1 : Int32).toNatClampNeg) &&& 255) : Int32).toUInt32 % 65536).toInt32 : Int32).toUInt32.toUInt16.toUInt32.toInt32 = ((((gI ν v0 (v1 : Int32).toNatClampNeg) &&& 255) : Int32).toUInt32 % 65536).toInt32)) (some (some (.int ((((gI ν v0 (v1 : Int32).toNatClampNeg) &&& 255) : Int32).toUInt32 % 65536).toInt32), (fx ν)))) := (ev_eq ..).trans rfl
theorem e_204_0 (d : Nat) (v0 : Int32) (ν : MM) : ev d 204 0 [.int v0] [] (fx ν) = if v0 < 0 then (ev d 204 3 [] [] (fx ν)) else (ev d 204 1 [.int v0] [] (fx ν)) := (ev_eq ..).trans rfl
theorem e_204_3 (d : Nat) (ν : MM) : ev d 204 3 [] [] (fx ν) = ev d 204 4 [] [.int 0] (fx ν) := (ev_eq ..).trans rfl
theorem e_204_1 (d : Nat) (v0 : Int32) (ν : MM) : ev d 204 1 [.int v0] [] (fx ν) = if (255 : Int32) < v0 then (ev d 204 3 [] [] (fx ν)) else (ev d 204 2 [] [] (fx ν)) := (ev_eq ..).trans rfl
theorem e_204_4 (d : Nat) (s0 : Int32) (ν : MM) : ev d 204 4 [] [.int s0] (fx ν) = gd (b01 s0) (some (some (.int s0), (fx ν))) := (ev_eq ..).trans rfl
theorem e_204_2 (d : Nat) (ν : MM) : ev d 204 2 [] [] (fx ν) = ev d 204 4 [] [.int 1] (fx ν) := (ev_eq ..).trans rfl
theorem e_205_0 (d : Nat) (v0 : Nat) (v1 : Int32) (v2 : Int32) (v3 : Int32) (ν : MM) : ev (d + 1) 205 0 [.ref v0, .int v1, .int v2, .int v3] [] (fx ν) = bnd 1 (ev d 204 0 [.int v1] [] (fx ν)) fun rs μ1 => ev (d + 1) 205 1 [.ref v0, .int v1, .int v2, .int v3] (rs ++ []) μ1 := (ev_eq ..).trans rfl
theorem e_205_1 (d : Nat) (v0 : Nat) (v1 : Int32) (v2 : Int32) (v3 : Int32) (s0 : Int32) (ν : MM) : ev d 205 1 [.ref v0, .int v1, .int v2, .int v3] [.int s0] (fx ν) = if s0 = 0 then (ev d 205 2 [] [] (fx ν)) else (ev d 205 3 [.ref v0, .int v1, .int v2, .int v3] [] (fx ν)) := (ev_eq ..).trans rfl
theorem e_205_2 (d : Nat) (ν : MM) : ev d 205 2 [] [] (fx ν) = some (some (.int (-1)), (fx ν)) := (ev_eq ..).trans rfl
theorem e_205_3 (d : Nat) (v0 : Nat) (v1 : Int32) (v2 : Int32) (v3 : Int32) (ν : MM) : ev d 205 3 [.ref v0, .int v1, .int v2, .int v3] [] (fx ν) = gd (cin [20, 21, 22, 23, 24, 25, 31, 32] (shp (fx ν) v0)) (if (if v2 < 0 then 0 else v2) < (if (Int32.ofNat (aln (fx ν) v0)) < v3 then (Int32.ofNat (aln (fx ν) v0)) else v3) then (ev d 205 5 [.ref v0, .int v1, .int (if v2 < 0 then 0 else v2), .int (if (Int32.ofNat (aln (fx ν) v0)) < v3 then (Int32.ofNat (aln (fx ν) v0)) else v3)] [] (fx ν)) else (ev d 205 4 [] [] (fx ν))) := (ev_eq ..).trans rfl
theorem e_205_5 (d : Nat) (v0 : Nat) (v1 : Int32) (v2 : Int32) (v3 : Int32) (ν : MM) : ev (d + 1) 205 5 [.ref v0, .int v1, .int v2, .int v3] [] (fx ν) = bnd 1 (ev d 206 0 [.ref v0, .int v1, .int v2, .int v3] [] (fx ν)) fun rs μ1 => ev (d + 1) 205 6 [] (rs ++ []) μ1 := (ev_eq ..).trans rfl
theorem e_205_4 (d : Nat) (ν : MM) : ev d 205 4 [] [] (fx ν) = some (some (.int (-1)), (fx ν)) := (ev_eq ..).trans rfl
theorem e_205_6 (d : Nat) (s0 : Int32) (ν : MM) : ev d 205 6 [] [.int s0] (fx ν) = some (some (.int s0), (fx ν)) := (ev_eq ..).trans rfl
theorem e_206_0 (d : Nat) (v0 : Nat) (v1 : Int32) (v2 : Int32) (v3 : Int32) (ν : MM) : ev d 206 0 [.ref v0, .int v1, .int v2, .int v3] [] (fx ν) = ev d 206 1 [.ref v0, .int v3, .int (v1 : Int32).toInt8.toInt32, .int v2] [] (fx ν) := (ev_eq ..).trans rfl
theorem e_206_1 (d : Nat) (v0 : Nat) (v3 : Int32) (v4 : Int32) (v5 : Int32) (ν : MM) : ev d 206 1 [.ref v0, .int v3, .int v4, .int v5] [] (fx ν) = if v3 ≤ v5 then (ev d 206 5 [] [] (fx ν)) else (ev d 206 2 [.ref v0, .int v3, .int v4, .int v5] [] (fx ν)) := (ev_eq ..).trans rfl
theorem e_206_5 (d : Nat) (ν : MM) : ev d 206 5 [] [] (fx ν) = some (some (.int (-1)), (fx ν)) := (ev_eq ..).trans rfl
theorem e_206_2 (d : Nat) (v0 : Nat) (v3 : Int32) (v4 : Int32) (v5 : Int32) (ν : MM) : ev d 206 2 [.ref v0, .int v3, .int v4, .int v5] [] (fx ν) = gd (cin [22, 23, 31] (shp (fx ν) v0) && inb v5 (aln (fx ν) v0)) (if (gI ν v0 (v5 : Int32).toNatClampNeg) = v4 then (ev d 206 3 [.int v5] [] (fx ν)) else (ev d 206 4 [.ref v0, .int v3, .int v4, .int v5] [] (fx ν))) := (ev_eq ..).trans rfl
theorem e_206_3 (d : Nat) (v5 : Int32) (ν : MM) : ev d 206 3 [.int v5] [] (fx ν) = some (some (.int v5), (fx ν)) := (ev_eq ..).trans rfl
theorem e_206_4 (d : Nat) (v0 : Nat) (v3 : Int32) (v4 : Int32) (v5 : Int32) (ν : MM) : ev d 206 4 [.ref v0, .int v3, .int v4, .int v5] [] (fx ν) = ev d 206 1 [.ref v0, .int v3, .int v4, .int (v5 + 1)] [] (fx ν) := (ev_eq ..).trans rfl
theorem e_207_0 (d : Nat) (v1 : Int32) (ν : MM) : ev d 207 0 [.ref 41, .int v1] [] (fx ν) = if v1 = (100 : Int32) then (ev d 207 1 [] [] (fx ν)) else (ev d 207 2 [.ref 41, .int v1] [] (fx ν)) := (ev_eq ..).trans rfl
set_option maxRecDepth 100000 in
theorem e_207_2 (d : Nat) (v1 : Int32) (ν : MM) : ev d 207 2 [.ref 41, .int v1] [] (fx ν) = gd (!decide (v1 < 0) && Nat.ble (v1 : Int32).toNatClampNeg 100000) (gd ((cin [20] (shp (alc (fx ν) 20 (v1 : Int32).toNatClampNeg (v1 : Int32).toNatClampNeg) 41) && cin [20] (shp (alc (fx ν) 20 (v1 : Int32).toNatClampNeg (v1 : Int32).toNatClampNeg) (msz (fx ν))) || cin [23] (shp (alc (fx ν) 20 (v1 : Int32).toNatClampNeg (v1 : Int32).toNatClampNeg) 41) && (cin [23] (shp (alc (fx ν) 20 (v1 : Int32).toNatClampNeg (v1 : Int32).toNatClampNeg) (msz (fx ν))) && fitB (alc (fx ν) 20 (v1 : Int32).toNatClampNeg (v1 : Int32).toNatClampNeg) 41 0 ((if v1 < 100 then v1 else 100) : Int32).toNatClampNeg)) && !decide ((0 : Int32) < 0) && !decide ((0 : Int32) < 0) && !decide (((if v1 < 100 then v1 else 100) : Int32) < 0) && Nat.ble (0 + ((if v1 < 100 then v1 else 100) : Int32).toNatClampNeg) 100 && Nat.ble (0 + ((if v1 < 100 then v1 else 100) : Int32).toNatClampNeg) (aln (alc (fx ν) 20 (v1 : Int32).toNatClampNeg (v1 : Int32).toNatClampNeg) (msz (fx ν)))) (some (some (.ref (msz (fx ν))), (cpI (alc (fx ν) 20 (v1 : Int32).toNatClampNeg (v1 : Int32).toNatClampNeg) 41 0 (msz (fx ν)) 0 ((if v1 < 100 then v1 else 100) : Int32).toNatClampNeg)))) := (ev_eq ..).trans rfl
theorem e_208_0 (d : Nat) (v0 : Int32) (v1 : Int32) (ν : MM) : ev d 208 0 [.int v0, .int v1] [] (fx ν) = if v0 < 0 then (ev d 208 2 [] [] (fx ν)) else (ev d 208 1 [.int v0, .int v1] [] (fx ν)) := (ev_eq ..).trans rfl
theorem e_208_1 (d : Nat) (v0 : Int32) (v1 : Int32) (ν : MM) : ev d 208 1 [.int v0, .int v1] [] (fx ν) = if v0 < v1 then (ev d 208 3 [.int v0] [] (fx ν)) else (ev d 208 2 [] [] (fx ν)) := (ev_eq ..).trans rfl
theorem e_208_3 (d : Nat) (v0 : Int32) (ν : MM) : ev d 208 3 [.int v0] [] (fx ν) = some (some (.int v0), (fx ν)) := (ev_eq ..).trans rfl
