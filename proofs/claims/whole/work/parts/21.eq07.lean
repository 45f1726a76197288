/-! block equations: methods 100 to 116 -/
theorem e_100_0 (d : Nat) (v0 : Nat) (v1 : Int32) (ν : MM) : ev d 100 0 [.ref v0, .int v1] [] (fx ν) = if v1 = 1 then (ev d 100 1 [.ref v0] [] (fx ν)) else if v1 = 2 then (ev d 100 2 [.ref v0] [] (fx ν)) else if v1 = 3 then (ev d 100 3 [.ref v0] [] (fx ν)) else if v1 = 4 then (ev d 100 4 [.ref v0] [] (fx ν)) else if v1 = 5 then (ev d 100 5 [.ref v0] [] (fx ν)) else if v1 = 6 then (ev d 100 6 [.ref v0] [] (fx ν)) else (ev d 100 7 [] [] (fx ν)) := (ev_eq ..).trans rfl
theorem e_100_1 (d : Nat) (v0 : Nat) (ν : MM) : ev d 100 1 [.ref v0] [] (fx ν) = gd (cin [0, 7, 1, 2, 4, 6, 8] (shp (fx ν) v0)) (match cin [0, 7] (shp (fx ν) v0) with | true => some (some (.int 1), (fx ν)) | false => some (some (.int 0), (fx ν))) := (ev_eq ..).trans rfl
theorem e_100_2 (d : Nat) (v0 : Nat) (ν : MM) : ev d 100 2 [.ref v0] [] (fx ν) = gd (cin [1, 8, 0, 2, 4, 6, 7] (shp (fx ν) v0)) (match cin [1, 8] (shp (fx ν) v0) with | true => some (some (.int 1), (fx ν)) | false => some (some (.int 0), (fx ν))) := (ev_eq ..).trans rfl
theorem e_100_3 (d : Nat) (v0 : Nat) (ν : MM) : ev d 100 3 [.ref v0] [] (fx ν) = gd (cin [2, 4, 0, 1, 6, 7, 8] (shp (fx ν) v0)) (match cin [2, 4] (shp (fx ν) v0) with | true => some (some (.int 1), (fx ν)) | false => some (some (.int 0), (fx ν))) := (ev_eq ..).trans rfl
theorem e_100_4 (d : Nat) (v0 : Nat) (ν : MM) : ev d 100 4 [.ref v0] [] (fx ν) = gd (cin [7, 0, 1, 2, 4, 6, 8] (shp (fx ν) v0)) (match cin [7] (shp (fx ν) v0) with | true => some (some (.int 1), (fx ν)) | false => some (some (.int 0), (fx ν))) := (ev_eq ..).trans rfl
theorem e_100_5 (d : Nat) (v0 : Nat) (ν : MM) : ev d 100 5 [.ref v0] [] (fx ν) = gd (cin [8, 0, 1, 2, 4, 6, 7] (shp (fx ν) v0)) (match cin [8] (shp (fx ν) v0) with | true => some (some (.int 1), (fx ν)) | false => some (some (.int 0), (fx ν))) := (ev_eq ..).trans rfl
theorem e_100_6 (d : Nat) (v0 : Nat) (ν : MM) : ev d 100 6 [.ref v0] [] (fx ν) = gd (cin [2, 0, 1, 4, 6, 7, 8] (shp (fx ν) v0)) (match cin [2] (shp (fx ν) v0) with | true => some (some (.int 1), (fx ν)) | false => some (some (.int 0), (fx ν))) := (ev_eq ..).trans rfl
theorem e_100_7 (d : Nat) (ν : MM) : ev d 100 7 [] [] (fx ν) = some (some (.int 1), (fx ν)) := (ev_eq ..).trans rfl
theorem e_101_0 (d : Nat) (ν : MM) : ev (d + 1) 101 0 [.ref 28] [] (fx ν) = bnd 0 (ev d 48 0 [.ref 34, .ref 29] [] (fx ν)) fun rs μ1 => ev (d + 1) 101 1 [.ref 28] (rs ++ []) μ1 := (ev_eq ..).trans rfl
theorem e_101_1 (d : Nat) (ν : MM) : ev d 101 1 [.ref 28] [] (fx ν) = some (some (.int (gI (sI ν 28 6 1) 34 8)), (fx (sI ν 28 6 1))) := (ev_eq ..).trans rfl
theorem e_102_0 (d : Nat) (ν : MM) : ev d 102 0 [.ref 28] [] (fx ν) = if (gI ν 28 6) = 0 then (ev d 102 1 [] [] (fx ν)) else (ev d 102 2 [.ref 28] [] (fx ν)) := (ev_eq ..).trans rfl
theorem e_102_1 (d : Nat) (ν : MM) : ev d 102 1 [] [] (fx ν) = some (some (.int (-3)), (fx ν)) := (ev_eq ..).trans rfl
theorem e_102_2 (d : Nat) (ν : MM) : ev (d + 1) 102 2 [.ref 28] [] (fx ν) = bnd 0 (ev d 48 0 [.ref 29, .ref 34] [] (fx ν)) fun rs μ1 => ev (d + 1) 102 3 [.ref 28] (rs ++ []) μ1 := (ev_eq ..).trans rfl
theorem e_102_3 (d : Nat) (ν : MM) : ev d 102 3 [.ref 28] [] (fx ν) = some (some (.int (gI ν 29 8)), (fx ν)) := (ev_eq ..).trans rfl
theorem e_103_0 (d : Nat) (v1 : Int32) (ν : MM) : ev d 103 0 [.ref 28, .int v1] [] (fx ν) = if v1 = 0 then (ev d 103 1 [.ref 28] [] (fx ν)) else if v1 = 1 then (ev d 103 2 [.ref 28] [] (fx ν)) else if v1 = 2 then (ev d 103 3 [.ref 28] [] (fx ν)) else if v1 = 3 then (ev d 103 4 [.ref 28] [] (fx ν)) else if v1 = 4 then (ev d 103 5 [.ref 28] [] (fx ν)) else if v1 = 5 then (ev d 103 6 [.ref 28] [] (fx ν)) else if v1 = 6 then (ev d 103 7 [.ref 28] [] (fx ν)) else (ev d 103 8 [] [] (fx ν)) := (ev_eq ..).trans rfl
theorem e_103_1 (d : Nat) (ν : MM) : ev d 103 1 [.ref 28] [] (fx ν) = some (some (.int (gI ν 29 8)), (fx ν)) := (ev_eq ..).trans rfl
theorem e_103_2 (d : Nat) (ν : MM) : ev d 103 2 [.ref 28] [] (fx ν) = some (some (.int (gI ν 29 7)), (fx ν)) := (ev_eq ..).trans rfl
theorem e_103_3 (d : Nat) (ν : MM) : ev d 103 3 [.ref 28] [] (fx ν) = some (some (.int (gI ν 29 5)), (fx ν)) := (ev_eq ..).trans rfl
theorem e_103_4 (d : Nat) (ν : MM) : ev d 103 4 [.ref 28] [] (fx ν) = some (some (.int (gI ν 29 3)), (fx ν)) := (ev_eq ..).trans rfl
theorem e_103_5 (d : Nat) (ν : MM) : ev d 103 5 [.ref 28] [] (fx ν) = some (some (.int (gI ν 29 14)), (fx ν)) := (ev_eq ..).trans rfl
theorem e_103_6 (d : Nat) (ν : MM) : ev d 103 6 [.ref 28] [] (fx ν) = some (some (.int (gI ν 29 1)), (fx ν)) := (ev_eq ..).trans rfl
theorem e_103_7 (d : Nat) (ν : MM) : ev d 103 7 [.ref 28] [] (fx ν) = some (some (.int (gI ν 42 1)), (fx ν)) := (ev_eq ..).trans rfl
theorem e_103_8 (d : Nat) (ν : MM) : ev d 103 8 [] [] (fx ν) = some (some (.int (-1)), (fx ν)) := (ev_eq ..).trans rfl
theorem e_104_0 (d : Nat) (v0 : Int32) (ν : MM) : ev d 104 0 [.int v0] [] (fx ν) = if v0 < 0 then (ev d 104 3 [] [] (fx ν)) else (ev d 104 1 [.int v0] [] (fx ν)) := (ev_eq ..).trans rfl
theorem e_104_3 (d : Nat) (ν : MM) : ev d 104 3 [] [] (fx ν) = ev d 104 4 [] [.int 0] (fx ν) := (ev_eq ..).trans rfl
theorem e_104_1 (d : Nat) (v0 : Int32) (ν : MM) : ev d 104 1 [.int v0] [] (fx ν) = if (4 : Int32) ≤ v0 then (ev d 104 3 [] [] (fx ν)) else (ev d 104 2 [] [] (fx ν)) := (ev_eq ..).trans rfl
theorem e_104_4 (d : Nat) (s0 : Int32) (ν : MM) : ev d 104 4 [] [.int s0] (fx ν) = gd (b01 s0) (some (some (.int s0), (fx ν))) := (ev_eq ..).trans rfl
theorem e_104_2 (d : Nat) (ν : MM) : ev d 104 2 [] [] (fx ν) = ev d 104 4 [] [.int 1] (fx ν) := (ev_eq ..).trans rfl
theorem e_105_0 (d : Nat) (v0 : Int32) (ν : MM) : ev d 105 0 [.int v0] [] (fx ν) = if v0 < 0 then (ev d 105 3 [] [] (fx ν)) else (ev d 105 1 [.int v0] [] (fx ν)) := (ev_eq ..).trans rfl
theorem e_105_3 (d : Nat) (ν : MM) : ev d 105 3 [] [] (fx ν) = ev d 105 4 [] [.int 0] (fx ν) := (ev_eq ..).trans rfl
theorem e_105_1 (d : Nat) (v0 : Int32) (ν : MM) : ev d 105 1 [.int v0] [] (fx ν) = if (6 : Int32) < v0 then (ev d 105 3 [] [] (fx ν)) else (ev d 105 2 [] [] (fx ν)) := (ev_eq ..).trans rfl
theorem e_105_4 (d : Nat) (s0 : Int32) (ν : MM) : ev d 105 4 [] [.int s0] (fx ν) = gd (b01 s0) (some (some (.int s0), (fx ν))) := (ev_eq ..).trans rfl
theorem e_105_2 (d : Nat) (ν : MM) : ev d 105 2 [] [] (fx ν) = ev d 105 4 [] [.int 1] (fx ν) := (ev_eq ..).trans rfl
theorem e_106_0 (d : Nat) (v0 : Int32) (ν : MM) : ev d 106 0 [.int v0] [] (fx ν) = if v0 = 0 then (ev d 106 2 [] [] (fx ν)) else (ev d 106 1 [.int v0] [] (fx ν)) := (ev_eq ..).trans rfl
theorem e_106_2 (d : Nat) (ν : MM) : ev d 106 2 [] [] (fx ν) = ev d 106 4 [] [.int 1] (fx ν) := (ev_eq ..).trans rfl
theorem e_106_1 (d : Nat) (v0 : Int32) (ν : MM) : ev d 106 1 [.int v0] [] (fx ν) = if v0 = (1 : Int32) then (ev d 106 2 [] [] (fx ν)) else (ev d 106 3 [] [] (fx ν)) := (ev_eq ..).trans rfl
theorem e_106_4 (d : Nat) (s0 : Int32) (ν : MM) : ev d 106 4 [] [.int s0] (fx ν) = gd (b01 s0) (some (some (.int s0), (fx ν))) := (ev_eq ..).trans rfl
theorem e_106_3 (d : Nat) (ν : MM) : ev d 106 3 [] [] (fx ν) = ev d 106 4 [] [.int 0] (fx ν) := (ev_eq ..).trans rfl
theorem e_107_0 (d : Nat) (v0 : Int32) (v1 : Int32) (ν : MM) : ev d 107 0 [.int v0, .int v1] [] (fx ν) = some (some (.int ((v0 >>> (((2 : Int32) * v1) &&& 31)) &&& 3)), (fx ν)) := (ev_eq ..).trans rfl
theorem e_108_0 (d : Nat) (v0 : Int32) (v1 : Int32) (v2 : Int32) (ν : MM) : ev d 108 0 [.int v0, .int v1, .int v2] [] (fx ν) = some (some (.int ((v0 &&& (((3 : Int32) <<< (((2 : Int32) * v1) &&& 31)) ^^^ (-1))) ||| ((v2 &&& 3) <<< (((2 : Int32) * v1) &&& 31)))), (fx ν)) := (ev_eq ..).trans rfl
theorem e_109_0 (d : Nat) (v0 : Int32) (v1 : Int32) (ν : MM) : ev d 109 0 [.int v0, .int v1] [] (fx ν) = some (some (.int ((v0 >>> (((4 : Int32) * v1) &&& 31)) &&& 15)), (fx ν)) := (ev_eq ..).trans rfl
theorem e_110_0 (d : Nat) (v0 : Int32) (v1 : Int32) (v2 : Int32) (ν : MM) : ev d 110 0 [.int v0, .int v1, .int v2] [] (fx ν) = some (some (.int (((v0 ||| (v1 <<< (4 &&& 31))) ||| ((v2 - v2 / 12 * 12) <<< (8 &&& 31))) ||| 36864)), (fx ν)) := (ev_eq ..).trans rfl
theorem e_111_0 (d : Nat) (v0 : Int32) (v1 : Int32) (ν : MM) : ev d 111 0 [.int v0, .int v1] [] (fx ν) = some (some (.int (((153 : Int32) ||| ((v1 - v1 / 12 * 12) <<< (8 &&& 31))) ||| (v0 <<< (12 &&& 31)))), (fx ν)) := (ev_eq ..).trans rfl
theorem e_113_0 (d : Nat) (v0 : Int32) (v1 : Int32) (v2 : Int32) (ν : MM) : ev d 113 0 [.int v0, .int v1, .int v2] [] (fx ν) = if v0 < v1 then (ev d 113 3 [] [] (fx ν)) else (ev d 113 1 [.int v0, .int v2] [] (fx ν)) := (ev_eq ..).trans rfl
theorem e_113_3 (d : Nat) (ν : MM) : ev d 113 3 [] [] (fx ν) = ev d 113 4 [] [.int 0] (fx ν) := (ev_eq ..).trans rfl
theorem e_113_1 (d : Nat) (v0 : Int32) (v2 : Int32) (ν : MM) : ev d 113 1 [.int v0, .int v2] [] (fx ν) = if v2 < v0 then (ev d 113 3 [] [] (fx ν)) else (ev d 113 2 [] [] (fx ν)) := (ev_eq ..).trans rfl
theorem e_113_4 (d : Nat) (s0 : Int32) (ν : MM) : ev d 113 4 [] [.int s0] (fx ν) = gd (b01 s0) (some (some (.int s0), (fx ν))) := (ev_eq ..).trans rfl
theorem e_113_2 (d : Nat) (ν : MM) : ev d 113 2 [] [] (fx ν) = ev d 113 4 [] [.int 1] (fx ν) := (ev_eq ..).trans rfl
theorem e_114_0 (d : Nat) (v1 : Int32) (ν : MM) : ev (d + 1) 114 0 [.ref 46, .int v1] [] (fx ν) = bnd 1 (ev d 113 0 [.int v1, .int 0, .int ((gI ν 47 0) - 1)] [] (fx ν)) fun rs μ1 => ev (d + 1) 114 1 [] (rs ++ []) μ1 := (ev_eq ..).trans rfl
theorem e_114_1 (d : Nat) (s0 : Int32) (ν : MM) : ev d 114 1 [] [.int s0] (fx ν) = gd (b01 s0) (some (some (.int s0), (fx ν))) := (ev_eq ..).trans rfl
theorem e_115_0 (d : Nat) (v1 : Int32) (ν : MM) : ev (d + 1) 115 0 [.ref 46, .int v1] [] (fx ν) = bnd 1 (ev d 113 0 [.int v1, .int 0, .int ((gI ν 47 1) - 1)] [] (fx ν)) fun rs μ1 => ev (d + 1) 115 1 [] (rs ++ []) μ1 := (ev_eq ..).trans rfl
theorem e_115_1 (d : Nat) (s0 : Int32) (ν : MM) : ev d 115 1 [] [.int s0] (fx ν) = gd (b01 s0) (some (some (.int s0), (fx ν))) := (ev_eq ..).trans rfl
theorem e_116_0 (d : Nat) (v1 : Int32) (ν : MM) : ev (d + 1) 116 0 [.ref 46, .int v1] [] (fx ν) = bnd 1 (ev d 113 0 [.int v1, .int 0, .int ((gI ν 47 2) - 1)] [] (fx ν)) fun rs μ1 => ev (d + 1) 116 1 [] (rs ++ []) μ1 := (ev_eq ..).trans rfl
theorem e_116_1 (d : Nat) (s0 : Int32) (ν : MM) : ev d 116 1 [] [.int s0] (fx ν) = gd (b01 s0) (some (some (.int s0), (fx ν))) := (ev_eq ..).trans rfl
