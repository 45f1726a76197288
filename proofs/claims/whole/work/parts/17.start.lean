/-! THE LAW's ENTRY: what the Statement gives of it -/
def FL : List Cond := flatC (Jvm.Cond.and given_1 narrow_1)
def stm (i : Nat) : Term := .string (strT.getD i ("", 0, "")).1 (strT.getD i ("", 0, "")).2.1
def fin (w : Cond) : Bool := decide (w ∈ FL)
def strOK (i : Nat) : Bool := fin (.exactly (stm i) "java/lang/String") && fin (.eq (.field (stm i) "java/lang/String" "coder" "B") (.int 0)) && fin (.arrayOf (.field (stm i) "java/lang/String" "value" "[B") .byte) && fin (.eq (.length (.field (stm i) "java/lang/String" "value" "[B")) (.int (Int32.ofNat (strN i)))) && ((List.range (strN i)).all fun j => fin (.eq (.elem (.field (stm i) "java/lang/String" "value" "[B") (.int (Int32.ofNat j))) (.int (strB i j)))) && decide (Cond.stringRef (strT.getD i ("", 0, "")).1 (strT.getD i ("", 0, "")).2.1 (strT.getD i ("", 0, "")).2.2 ∈ lw_tbl) && Nat.ble (strN i) 1000
theorem str_ok : (List.range 13).all strOK = true := by decide +kernel
theorem nc_ok : ncastW.all (fun q => fin (.not (.castable q.1 q.2))) = true := by decide +kernel
theorem ca_ok : castW.all (fun q => decide (Cond.castable q.1 q.2 ∈ lw_tbl)) = true := by decide +kernel
theorem cl_ok : vwCl.all (fun q => decide (Cond.instantiable q.1 q.2.2 ∈ lw_tbl)) = true := by decide +kernel
theorem ac_ok : (decide (Cond.arrayClass .int ∈ lw_tbl) && decide (Cond.arrayClass .long ∈ lw_tbl) && decide (Cond.arrayClass .boolean ∈ lw_tbl) && decide (Cond.arrayClass .byte ∈ lw_tbl) && decide (Cond.arrayOver (.object "TrueHeard$Clause") ∈ lw_tbl) && decide (Cond.arrayOver (.object "TrueHeard$Runner") ∈ lw_tbl)) = true := by decide +kernel
theorem ls_ok : (decide (Cond.laysStatic "java/lang/String" "COMPACT_STRINGS" "Z" ∈ lw_tbl) && decide (Cond.initialized "java/lang/String" ∈ lw_tbl) && decide (Cond.laysStatic "jdk/internal/util/Preconditions" "SIOOBE_FORMATTER" "Ljava/util/function/BiFunction;" ∈ lw_tbl) && decide (Cond.initialized "jdk/internal/util/Preconditions" ∈ lw_tbl) && fin (.eq (.static "java/lang/String" "COMPACT_STRINGS" "Z") (.int 1)) && fin (.isRef (.static "jdk/internal/util/Preconditions" "SIOOBE_FORMATTER" "Ljava/util/function/BiFunction;"))) = true := by decide +kernel
theorem oi_ok : Cond.instanceMethod objectInit ∈ gTbl ∧ Cond.code objectInit ⟨#[0xb1]⟩ 1 none ∈ gTbl := by
  refine ⟨List.mem_filter.mpr ⟨?_, rfl⟩, List.mem_filter.mpr ⟨?_, rfl⟩⟩ <;> decide +kernel
/-- the memory in which the law begins -/
def mu0 (xs : Nat → Int32) (L : Nat) : MM := (fun q => if q < 28 then roK q else 99, fun q => if q < 13 then 0 else if q < 26 then strN (q - 13) else if q = 26 then L else 0, 28, 0, fun q k => if q < 13 then 0 else if q < 26 then strB (q - 13) k else if q = 26 then xs k else 0, fun _ _ => 0, fun q k => if q < 13 ∧ k = 0 then some (13 + q) else none)
theorem rep0 {G : GG} {ro : Nat → Nat} {xs : Nat → Int32} {L : Nat} {H : Heap} : Rep H.size G ro xs L (mu0 xs L) H := by
  refine ⟨⟨Nat.le_refl _, rfl⟩, fun q => ?_, ⟨fun i hi => ⟨?_, ?_, ?_, fun j => ?_⟩, ?_, fun j => ?_⟩, fun q h1 h2 => ?_⟩
  · by_cases h : q < 28
    · exact Or.inl ⟨h, if_pos h⟩
    · exact Or.inr (Or.inr ⟨by omega, by show 28 ≤ q; omega, if_neg h⟩)
  · show (if i < 13 ∧ 0 = 0 then some (13 + i) else none) = _
    rw [if_pos ⟨hi, rfl⟩]
  · show (if i < 13 then (0 : Int32) else _) = _
    rw [if_pos hi]
  · show (if 13 + i < 13 then 0 else if 13 + i < 26 then strN (13 + i - 13) else _) = _
    rw [if_neg (by omega), if_pos (by omega), Nat.add_sub_cancel_left]
  · show (if 13 + i < 13 then (0 : Int32) else if 13 + i < 26 then strB (13 + i - 13) j else _) = _
    rw [if_neg (by omega), if_pos (by omega), Nat.add_sub_cancel_left]
  · rfl
  · rfl
  · exact absurd h2 (by show ¬ q < 28; omega)
theorem wf0 {s : State} {args : Array Value} {b L : Nat} {xs : Nat → Int32} (hts : ∀ w ∈ lw_tbl, w.before args s = true) (hgv : (Jvm.Cond.and given_1 narrow_1).before args s = true) (hX : va_X b L xs s s.heap) (hb : b < s.heap.size) : ∃ (G : GG) (ro : Nat → Nat) (z : Value), ro 26 = b ∧ WF s.heap.size G ro z xs L s := by
  have hfl := flat_of_before _ hgv
  have hfin : ∀ w, fin w = true → w.before args s = true := fun w h => hfl w (of_decide_eq_true h)
  have hA : ∀ a : Nat, a < s.heap.size → ¬ s.heap.size ≤ a := fun a h => Nat.not_le.mpr h
  have hcl : ∀ ci : Nat, ∃ w : ClassId × (Nat → Nat), ∀ q : vw_C, vwCl[ci]? = some q → u_Kn s q.1 q.2.1 q.2.2 w.1 w.2 := by
    intro ci
    cases hq : vwCl[ci]? with
    | none => exact ⟨(0, fun _ => 0), fun q h => by cases h⟩
    | some q =>
      obtain ⟨cC, iS, hk⟩ := u_known (C := q.1) (T := q.2.1) (N := q.2.2) (n := q.2.2) hts (fun w hw => (List.mem_filter.mp (vw_in hq w hw)).1) (hts _ (of_decide_eq_true (List.all_eq_true.mp cl_ok q (List.mem_of_getElem? hq))))
      exact ⟨(cC, iS), fun q' h => by cases h; exact hk⟩
  obtain ⟨fc, hfc⟩ := Classical.axiomOfChoice hcl
  obtain ⟨h, a6⟩ := and2 ac_ok
  obtain ⟨h, a5⟩ := and2 h
  obtain ⟨h, a4⟩ := and2 h
  obtain ⟨h, a3⟩ := and2 h
  obtain ⟨a1, a2⟩ := and2 h
  have prim : ∀ ty : FieldType, (∀ C, ty ≠ .object C) → (Cond.arrayClass ty).before args s = true → ∃ cA, ArrOfT s cA ty ∧ va_RA s cA ty := by
    intro ty hno hw
    obtain ⟨cA, kA, comp, h1, h2, h3⟩ := Cond.arrayClass_spec hw
    refine ⟨cA, fun n z => ⟨(fun k h => by cases h), kA, h2, comp, h3⟩, ?_⟩
    cases ty <;> first | exact h1 | exact absurd rfl (hno _)
  have refa : ∀ E : String, (Cond.arrayOver (.object E)).before args s = true → ∃ cA, ArrOfT s cA (.object E) ∧ va_RA s cA (.object E) := by
    intro E hw
    obtain ⟨comp, cA, kA, h1, -, h2, h3, h4⟩ := Cond.arrayOver_spec hw
    exact ⟨cA, fun n z => ⟨(fun k h => by cases h), kA, h2, comp, h3⟩, kA, comp, h2, h3, h1, h4⟩
  have har : ∀ k : Nat, ∃ cA : ClassId, ∀ ty : FieldType, kty k = some ty → ArrOfT s cA ty ∧ va_RA s cA ty := by
    intro k
    unfold kty
    split
    · obtain ⟨cA, h⟩ := prim .int (fun _ h => by cases h) (hts _ (of_decide_eq_true a1))
      exact ⟨cA, fun ty e => by cases e; exact h⟩
    · obtain ⟨cA, h⟩ := prim .long (fun _ h => by cases h) (hts _ (of_decide_eq_true a2))
      exact ⟨cA, fun ty e => by cases e; exact h⟩
    · obtain ⟨cA, h⟩ := prim .boolean (fun _ h => by cases h) (hts _ (of_decide_eq_true a3))
      exact ⟨cA, fun ty e => by cases e; exact h⟩
    · obtain ⟨cA, h⟩ := prim .byte (fun _ h => by cases h) (hts _ (of_decide_eq_true a4))
      exact ⟨cA, fun ty e => by cases e; exact h⟩
    · obtain ⟨cA, h⟩ := refa _ (hts _ (of_decide_eq_true a5))
      exact ⟨cA, fun ty e => by cases e; exact h⟩
    · obtain ⟨cA, h⟩ := refa _ (hts _ (of_decide_eq_true a6))
      exact ⟨cA, fun ty e => by cases e; exact h⟩
    · exact ⟨0, fun ty e => by cases e⟩
  obtain ⟨fa, hfa⟩ := Classical.axiomOfChoice har
  have hst : ∀ i : Nat, ∃ q : (Nat → Nat) × (Nat → Nat), i < 13 → vk_S 1 [strN i] [strL.getD i []] q.1 q.2 (fun q => s.heap.size ≤ q) s s.heap ∧ (stm i).eval args s none [] s = some (.ref (q.1 0)) := by
    intro i
    by_cases hi : i < 13
    · have h := List.all_eq_true.mp str_ok i (List.mem_range.mpr hi)
      obtain ⟨h, s7⟩ := and2 h
      obtain ⟨h, s6⟩ := and2 h
      obtain ⟨h, s5⟩ := and2 h
      obtain ⟨h, s4⟩ := and2 h
      obtain ⟨h, s3⟩ := and2 h
      obtain ⟨s1, s2⟩ := and2 h
      have z1 : ∀ j : Nat, j < 1 → j = 0 := fun j hj => by omega
      obtain ⟨aK, aV, e1, e2⟩ := vk_Sof (args := args) (s := s) (N := 1) (tm := fun _ => stm i) (len := [strN i]) (byt := [strL.getD i []]) (A := fun q => s.heap.size ≤ q) (fun j hj => by rw [z1 j hj]; show strN i < 2 ^ 31; have := Nat.le_of_ble_eq_true s7; omega) (fun j hj => hfin _ s1) (fun j hj => hfin _ s2) (fun j hj => hfin _ s3) (fun j hj => by rw [z1 j hj]; exact hfin _ s4) (fun j hj k hk => by
          rw [z1 j hj] at hk ⊢
          exact hfin _ (List.all_eq_true.mp s5 k (List.mem_range.mpr hk))) (fun j k hj hk hne => absurd ((z1 j hj).trans (z1 k hk).symm) hne) hA
      exact ⟨(aK, aV), fun _ => ⟨e1, e2 0 (by decide)⟩⟩
    · exact ⟨(fun _ => 0, fun _ => 0), fun h => absurd h hi⟩
  obtain ⟨fs, hfs⟩ := Classical.axiomOfChoice hst
  obtain ⟨h, l6⟩ := and2 ls_ok
  obtain ⟨h, l5⟩ := and2 h
  obtain ⟨h, l4⟩ := and2 h
  obtain ⟨h, l3⟩ := and2 h
  obtain ⟨l1, l2⟩ := and2 h
  have hZ1 : va_Z "java/lang/String" "COMPACT_STRINGS" "Z" (.int 1) (fun q => s.heap.size ≤ q) s s.heap := va_Zof (hts _ (of_decide_eq_true l1)) (hts _ (of_decide_eq_true l2)) (va_eqi (hfin _ l5)) hA
  have hZ2 := va_Zqof (A := fun q => s.heap.size ≤ q) (hts _ (of_decide_eq_true l3)) (hts _ (of_decide_eq_true l4)) (hfin _ l6) hA
  obtain ⟨z, hz, hZ3⟩ : ∃ z : Value, (z = .null ∨ ∃ a, z = .ref a) ∧ va_Z "jdk/internal/util/Preconditions" "SIOOBE_FORMATTER" "Ljava/util/function/BiFunction;" z (fun q => s.heap.size ≤ q) s s.heap := by
    rcases hZ2 with h | ⟨t, h⟩
    · exact ⟨.null, Or.inl rfl, h⟩
    · exact ⟨.ref t, Or.inr ⟨t, rfl⟩, h⟩
  refine ⟨(fun ci => (fc ci).1, fun ci => (fc ci).2, fa), fun q => if q < 13 then (fs q).1 0 else if q < 26 then (fs (q - 13)).2 0 else b, z, rfl, ⟨Nat.le_refl _, hz⟩, fun ci q h => hfc ci q h, fun k ty h => hfa k ty h, fun i hi => ⟨(fs i).1, (fs i).2, ?_, ?_, (hfs i hi).1⟩, fun i w hw => ?_, ⟨hZ1, hZ3⟩, ⟨hX, hb, Nat.not_le.mpr hb⟩, fun w hw hn => va_Nw.of (nest_on hn) (hts w hw), fun q hq => va_Nw.of rfl (hts _ (of_decide_eq_true (List.all_eq_true.mp ca_ok q hq))), fun q hq => va_Nc.of (hfin _ (List.all_eq_true.mp nc_ok q hq)), va_AO.of (hts _ (of_decide_eq_true a5)), va_AO.of (hts _ (of_decide_eq_true a6))⟩
  · show _ = if i < 13 then (fs i).1 0 else _
    rw [if_pos hi]
  · show _ = if 13 + i < 13 then _ else if 13 + i < 26 then (fs (13 + i - 13)).2 0 else _
    rw [if_neg (by omega), if_pos (by omega), Nat.add_sub_cancel_left]
  · have hi : i < 13 := (List.getElem?_eq_some_iff.mp hw).1
    have h := List.all_eq_true.mp str_ok i (List.mem_range.mpr hi)
    obtain ⟨h, s7⟩ := and2 h
    obtain ⟨h, s6⟩ := and2 h
    have e : strT.getD i ("", 0, "") = w := by rw [List.getD_eq_getElem?_getD, hw]; rfl
    rw [e] at s6
    have h2 := (hfs i hi).2
    unfold stm at h2
    rw [e] at h2
    show vk_R w.1 w.2.1 w.2.2 (if i < 13 then (fs i).1 0 else _) s
    rw [if_pos hi]
    have h3 : (Cond.stringRef w.1 w.2.1 w.2.2).before #[] s = true := by
      have := hts _ (of_decide_eq_true s6)
      exact this
    refine vk_R.of h3 ?_
    rw [Term.string_eval_of_vm (args := args) rfl]
    exact h2

