/-! THE MACHINE FOLLOWS THE SMALL MACHINE, instruction by instruction -/
theorem gd_inv {b : Bool} {r : Rs} {x : Option Value × MM} (h : gd b r = some x) : b = true ∧ r = some x := by
  cases b with
  | true => exact ⟨rfl, h⟩
  | false => cases h
theorem p1_inv {st : List Value} {k : Value → List Value → Rs} {x : Option Value × MM} (h : p1 st k = some x) : ∃ v r, st = v :: r ∧ k v r = some x := by
  cases st with
  | nil => cases h
  | cons v r => exact ⟨v, r, rfl, h⟩
theorem asI_inv {v : Value} {k : Int32 → Rs} {x : Option Value × MM} (h : asI v k = some x) : ∃ i, v = .int i ∧ k i = some x := by
  cases v <;> first | (cases h; done) | exact ⟨_, rfl, h⟩
theorem asL_inv {v : Value} {k : Int64 → Rs} {x : Option Value × MM} (h : asL v k = some x) : ∃ i, v = .long i ∧ k i = some x := by
  cases v <;> first | (cases h; done) | exact ⟨_, rfl, h⟩
theorem asR_inv {v : Value} {k : Nat → Rs} {x : Option Value × MM} (h : asR v k = some x) : ∃ i : Nat, v = .ref i ∧ k i = some x := by
  cases v <;> first | (cases h; done) | exact ⟨_, rfl, h⟩
theorem asN_inv {v : Value} {y : Rs} {k : Nat → Rs} {x : Option Value × MM} (h : asN v y k = some x) : (v = .null ∧ y = some x) ∨ ∃ i : Nat, v = .ref i ∧ k i = some x := by
  cases v <;> first | (cases h; done) | exact Or.inr ⟨_, rfl, h⟩ | exact Or.inl ⟨rfl, h⟩
theorem cat1_inv {v : Value} {r : Rs} {x : Option Value × MM} (h : cat1 v r = some x) : (v = .null ∨ (∃ i, v = .ref i) ∨ ∃ i, v = .int i) ∧ r = some x := by
  cases v <;> first | (cases h; done) | exact ⟨Or.inl rfl, h⟩ | exact ⟨Or.inr (Or.inl ⟨_, rfl⟩), h⟩ | exact ⟨Or.inr (Or.inr ⟨_, rfl⟩), h⟩
theorem ppI_inv {st : List Value} {k : Int32 → List Value → Rs} {x : Option Value × MM} (h : ppI st k = some x) : ∃ i r, st = .int i :: r ∧ k i r = some x := by
  obtain ⟨v, r, rfl, h⟩ := p1_inv h
  obtain ⟨i, rfl, h⟩ := asI_inv h
  exact ⟨i, r, rfl, h⟩
theorem ppL_inv {st : List Value} {k : Int64 → List Value → Rs} {x : Option Value × MM} (h : ppL st k = some x) : ∃ i r, st = .long i :: r ∧ k i r = some x := by
  obtain ⟨v, r, rfl, h⟩ := p1_inv h
  obtain ⟨i, rfl, h⟩ := asL_inv h
  exact ⟨i, r, rfl, h⟩
theorem ppR_inv {st : List Value} {k : Nat → List Value → Rs} {x : Option Value × MM} (h : ppR st k = some x) : ∃ (i : Nat) (r : List Value), st = .ref i :: r ∧ k i r = some x := by
  obtain ⟨v, r, rfl, h⟩ := p1_inv h
  obtain ⟨i, rfl, h⟩ := asR_inv h
  exact ⟨i, r, rfl, h⟩
theorem lgt_inv {l : LV} {i : Nat} {k : Value → Rs} {x : Option Value × MM} (h : lgt l i k = some x) : ∃ (j : Nat) (v : Value), l[j]? = some (i, v) ∧ k v = some x := by
  induction l with
  | nil => cases h
  | cons q l ih =>
    unfold lgt at h
    split at h
    · next hb =>
      exact ⟨0, q.2, by rw [List.getElem?_cons_zero, ← Nat.eq_of_beq_eq_true hb], h⟩
    · obtain ⟨j, v, h1, h2⟩ := ih h
      exact ⟨j + 1, v, by rw [List.getElem?_cons_succ]; exact h1, h2⟩
theorem ppN_inv {k : List Value → List Value → Rs} {x : Option Value × MM} : ∀ (n : Nat) (st acc : List Value), ppN n st acc k = some x → ∃ vs r, vs.length = n ∧ st = vs ++ r ∧ k (vs.reverse ++ acc) r = some x
  | 0, st, acc, h => ⟨[], st, rfl, rfl, h⟩
  | n + 1, st, acc, h => by
    obtain ⟨v, r, rfl, h⟩ := p1_inv h
    obtain ⟨vs, r', h1, rfl, h2⟩ := ppN_inv n r (v :: acc) h
    exact ⟨v :: vs, r', by simp [h1], rfl, by simpa using h2⟩
theorem cin_mem : ∀ {l : List Nat} {s : Nat}, cin l s = true → s ∈ l
  | [], _, h => by cases h
  | c :: r, s, h => by
    unfold cin at h
    rcases Bool.or_eq_true_iff.mp h with h | h
    · rw [Nat.eq_of_beq_eq_true h]; exact List.mem_cons_self
    · exact List.mem_cons_of_mem _ (cin_mem h)
theorem cin_not : ∀ {l : List Nat} {s : Nat}, cin l s = false → s ∉ l
  | [], _, _ => List.not_mem_nil
  | c :: r, s, h => by
    unfold cin at h
    rw [Bool.or_eq_false_iff] at h
    intro hm
    rcases List.mem_cons.mp hm with rfl | hm
    · have := Nat.beq_refl s
      rw [this] at h
      exact absurd h.1 (by decide)
    · exact cin_not h.2 hm
theorem inb_in {i : Int32} {n : Nat} (h : inb i n = true) : vp_in i n ∧ i.toNatClampNeg < n ∧ ¬ i < 0 := by
  unfold inb at h
  simp only [Bool.and_eq_true, Bool.not_eq_true', decide_eq_false_iff_not, decide_eq_true_eq] at h
  exact ⟨fun q => q.elim h.1 (fun z => by omega), h.2, h.1⟩
theorem b01_or {x : Int32} (h : b01 x = true) : x = 0 ∨ x = 1 := by
  unfold b01 at h
  simpa using h
theorem and2 {a b : Bool} (h : (a && b) = true) : a = true ∧ b = true := by simpa using h
theorem wis_in {i : Nat} {w : Cond} (h : wis i w = true) : w ∈ lw_tbl := by
  unfold wis at h
  split at h
  · next v hv =>
    have : v = w := by simpa using h
    rw [← this]
    exact List.mem_of_getElem? hv
  · cases h
theorem wis_g {i : Nat} {w : Cond} (h : wis i w = true) (hg : goodWord w = true) : w ∈ gTbl := List.mem_filter.mpr ⟨wis_in h, hg⟩
theorem cl2_get {f : Nat → Nat} {z : Value} {l : LV} {j i : Nat} {v : Value} (h : l[j]? = some (i, v)) : (cl2 f z l)[j]? = some (i, cv f z v) := by
  unfold cl2
  rw [List.getElem?_map, h]
  rfl
theorem cv_cat {f : Nat → Nat} {z : Value} (hz : z = .null ∨ ∃ a, z = .ref a) (v : Value) : (cv f z v).category = v.category := by
  cases v with
  | retAddr n =>
    rcases hz with rfl | ⟨a, rfl⟩ <;> rfl
  | _ => rfl
theorem cl2_lst1 {f : Nat → Nat} {z : Value} (hz : z = .null ∨ ∃ a, z = .ref a) (l : LV) (i : Nat) (v : Value) : (i, cv f z v) :: (cl2 f z l).filter (fun q => !(q.1 == i) && !(q.1 + 1 == i && q.2.category == 2)) = cl2 f z (lst1 l i v) := by
  unfold cl2 lst1
  rw [List.map_cons, List.filter_map]
  congr 2
  apply List.filter_congr
  intro q _
  simp only [Function.comp, cv_cat hz]
theorem cl2_lst2 {f : Nat → Nat} {z : Value} (hz : z = .null ∨ ∃ a, z = .ref a) (l : LV) (i : Nat) (v : Value) : (i, cv f z v) :: (cl2 f z l).filter (fun q => !(q.1 == i) && (!(q.1 == i + 1) && !(q.1 + 1 == i && q.2.category == 2))) = cl2 f z (lst2 l i v) := by
  unfold cl2 lst2
  rw [List.map_cons, List.filter_map]
  congr 2
  apply List.filter_congr
  intro q _
  simp only [Function.comp, cv_cat hz]
theorem slr_map {f : Nat → Nat} {z : Value} (hz : z = .null ∨ ∃ a, z = .ref a) {st : List Value} (h : slr st = true) : ((st.map (cv f z)).map fun v => v.category).sum ≤ 8 := by
  have h1 := Nat.le_of_ble_eq_true h
  rw [List.map_map, show ((fun v => v.category) ∘ cv f z) = fun v => v.category from funext fun v => cv_cat hz v]
  exact h1
def mle (μ μ' : MM) : Prop := msz μ ≤ msz μ' ∧ msl μ ≤ msl μ'
theorem mle_rf {μ : MM} : mle μ μ := ⟨Nat.le_refl _, Nat.le_refl _⟩
theorem mle_tr {a b c : MM} (h : mle a b) (h2 : mle b c) : mle a c := ⟨Nat.le_trans h.1 h2.1, Nat.le_trans h.2 h2.2⟩
def retR (r : Option Value) (i : Instr) (as : List Nat) : Prop := match i with
  | .ireturn => ∃ x, r = some (.int x) ∧ rtg as x none = none ∧ ∃ y : Option Value × MM, rtg as x (some y) = some y
  | .lreturn => ∃ x, r = some (.long x)
  | .areturn => r = some .null ∨ ∃ a, r = some (.ref a)
  | .return_ => r = none
  | _ => False
section SIM
variable {p : Program} {l : Launch} {e : Env} {R : Room} {s : State} {m : MethodId} {args : Array Value} {below : List Frame} {meth : Method} {c : Code} {Q : State → Prop}
variable {N0 : Nat} {G : GG} {ro : Nat → Nat} {z : Value} {xs : Nat → Int32} {L : Nat} {t : MT} {z0 y0 d : Nat} {r : Option Value} {μ9 : MM}
def Wk (p : Program) (l : Launch) (e : Env) (R : Room) (s : State) (m : MethodId) (args : Array Value) (below : List Frame) (meth : Method) (c : Code) (Q : State → Prop) (N0 : Nat) (G : GG) (ro : Nat → Nat) (z : Value) (xs : Nat → Int32) (L : Nat) (nL z0 y0 : Nat) (μ9 : MM) (pc : Nat) (ls : LV) (st : List Value) (μ : MM) : Prop :=
  mle μ μ9 ∧ ∀ (H : Heap) (locs : List Loc) (Ls : Array Slot), Rep N0 G ro xs L μ H → va_S (fun q => N0 ≤ q) s.heap H locs → lv_has Ls nL (cl2 (cad N0 ro) z ls) → z0 ≤ msz μ → y0 ≤ msl μ → W p l e R s m args below meth c H locs (msz μ - z0) (msl μ - y0) Q (F0 m pc Ls (st.map (cv (cad N0 ro) z)))
/-- the method's own state of things -/
def Cx (p : Program) (R : Room) (s : State) (m : MethodId) (args : Array Value) (meth : Method) (c : Code) (N0 : Nat) (G : GG) (ro : Nat → Nat) (z : Value) (xs : Nat → Int32) (L : Nat) (t : MT) (d z0 y0 : Nat) (μ9 : MM) : Prop :=
  p.tables.exec = Jvm.exec ∧ c.code = t.2.1 ∧ c.maxLocals = t.2.2.1 ∧ s.vm.findClass t.1.cls = some m.cls ∧ (∀ w ∈ gTbl, w.before args s = true) ∧ (t.1.name = "<init>" → meth.name = "<init>") ∧ WF N0 G ro z xs L s ∧ d + 1 ≤ R.frames ∧ 60 * (d + 1) ≤ R.locals ∧ msz μ9 - z0 ≤ R.cells ∧ msl μ9 - y0 ≤ R.slots
-- GENERATED by mk06.py from here on
variable {C : Nat → List Value → MM → Rs} {J : Nat → LV → List Value → MM → Rs} {K : LV → List Value → MM → Rs} {pc len : Nat} {as ws : List Nat} {ls : LV} {st : List Value} {μ : MM}
theorem s_aconst_null  (cx : Cx p R s m args meth c N0 G ro z xs L t d z0 y0 μ9) (ok : okI t (pc, .aconst_null, len, as, ws) = true) (hK : ∀ ls st μ, K ls st μ = some (r, μ9) → Wk p l e R s m args below meth c Q N0 G ro z xs L t.2.2.1 z0 y0 μ9 (pc + len) ls st μ) (hJ : ∀ b ls st μ, J b ls st μ = some (r, μ9) → Wk p l e R s m args below meth c Q N0 G ro z xs L t.2.2.1 z0 y0 μ9 (bpc t b) ls st μ) (h : x1 C J (.aconst_null) as ls st μ K = some (r, μ9)) : Wk p l e R s m args below meth c Q N0 G ro z xs L t.2.2.1 z0 y0 μ9 pc ls st μ := by
  obtain ⟨hx, hb, hml, hown, hts, hmn, wf, hfr, hlo, hce, hsl⟩ := cx
  have ok2 : (decide (decode t.2.1 pc = .ok (.aconst_null, len)) && Nat.beq len 1) = true := ok
  obtain ⟨hd, ok3⟩ := and2 ok2
  have hd := of_decide_eq_true hd
  obtain rfl : len = 1 := Nat.eq_of_beq_eq_true ok3
  obtain ⟨hm, hk⟩ := hK _ _ _ h
  refine ⟨hm, fun H locs Ls hR hS hL g1 g2 => ?_⟩
  exact lv_null hx hb hd (hk H locs Ls hR hS hL g1 g2)
theorem s_iconst {n : Int} (cx : Cx p R s m args meth c N0 G ro z xs L t d z0 y0 μ9) (ok : okI t (pc, .iconst n, len, as, ws) = true) (hK : ∀ ls st μ, K ls st μ = some (r, μ9) → Wk p l e R s m args below meth c Q N0 G ro z xs L t.2.2.1 z0 y0 μ9 (pc + len) ls st μ) (hJ : ∀ b ls st μ, J b ls st μ = some (r, μ9) → Wk p l e R s m args below meth c Q N0 G ro z xs L t.2.2.1 z0 y0 μ9 (bpc t b) ls st μ) (h : x1 C J (.iconst n) as ls st μ K = some (r, μ9)) : Wk p l e R s m args below meth c Q N0 G ro z xs L t.2.2.1 z0 y0 μ9 pc ls st μ := by
  obtain ⟨hx, hb, hml, hown, hts, hmn, wf, hfr, hlo, hce, hsl⟩ := cx
  have ok2 : (decide (decode t.2.1 pc = .ok (.iconst n, len)) && Nat.beq len 1) = true := ok
  obtain ⟨hd, ok3⟩ := and2 ok2
  have hd := of_decide_eq_true hd
  obtain rfl : len = 1 := Nat.eq_of_beq_eq_true ok3
  obtain ⟨hm, hk⟩ := hK _ _ _ h
  refine ⟨hm, fun H locs Ls hR hS hL g1 g2 => ?_⟩
  exact lv_iconst hx hb hd rfl (hk H locs Ls hR hS hL g1 g2)
theorem s_bipush {n : Int} (cx : Cx p R s m args meth c N0 G ro z xs L t d z0 y0 μ9) (ok : okI t (pc, .bipush n, len, as, ws) = true) (hK : ∀ ls st μ, K ls st μ = some (r, μ9) → Wk p l e R s m args below meth c Q N0 G ro z xs L t.2.2.1 z0 y0 μ9 (pc + len) ls st μ) (hJ : ∀ b ls st μ, J b ls st μ = some (r, μ9) → Wk p l e R s m args below meth c Q N0 G ro z xs L t.2.2.1 z0 y0 μ9 (bpc t b) ls st μ) (h : x1 C J (.bipush n) as ls st μ K = some (r, μ9)) : Wk p l e R s m args below meth c Q N0 G ro z xs L t.2.2.1 z0 y0 μ9 pc ls st μ := by
  obtain ⟨hx, hb, hml, hown, hts, hmn, wf, hfr, hlo, hce, hsl⟩ := cx
  have ok2 : (decide (decode t.2.1 pc = .ok (.bipush n, len)) && Nat.beq len 2) = true := ok
  obtain ⟨hd, ok3⟩ := and2 ok2
  have hd := of_decide_eq_true hd
  obtain rfl : len = 2 := Nat.eq_of_beq_eq_true ok3
  obtain ⟨hm, hk⟩ := hK _ _ _ h
  refine ⟨hm, fun H locs Ls hR hS hL g1 g2 => ?_⟩
  exact lv_bipush hx hb hd rfl (hk H locs Ls hR hS hL g1 g2)
theorem s_sipush {n : Int} (cx : Cx p R s m args meth c N0 G ro z xs L t d z0 y0 μ9) (ok : okI t (pc, .sipush n, len, as, ws) = true) (hK : ∀ ls st μ, K ls st μ = some (r, μ9) → Wk p l e R s m args below meth c Q N0 G ro z xs L t.2.2.1 z0 y0 μ9 (pc + len) ls st μ) (hJ : ∀ b ls st μ, J b ls st μ = some (r, μ9) → Wk p l e R s m args below meth c Q N0 G ro z xs L t.2.2.1 z0 y0 μ9 (bpc t b) ls st μ) (h : x1 C J (.sipush n) as ls st μ K = some (r, μ9)) : Wk p l e R s m args below meth c Q N0 G ro z xs L t.2.2.1 z0 y0 μ9 pc ls st μ := by
  obtain ⟨hx, hb, hml, hown, hts, hmn, wf, hfr, hlo, hce, hsl⟩ := cx
  have ok2 : (decide (decode t.2.1 pc = .ok (.sipush n, len)) && Nat.beq len 3) = true := ok
  obtain ⟨hd, ok3⟩ := and2 ok2
  have hd := of_decide_eq_true hd
  obtain rfl : len = 3 := Nat.eq_of_beq_eq_true ok3
  obtain ⟨hm, hk⟩ := hK _ _ _ h
  refine ⟨hm, fun H locs Ls hR hS hL g1 g2 => ?_⟩
  exact lv_sipush hx hb hd rfl (hk H locs Ls hR hS hL g1 g2)
theorem s_lconst {n : Fin 2} (cx : Cx p R s m args meth c N0 G ro z xs L t d z0 y0 μ9) (ok : okI t (pc, .lconst n, len, as, ws) = true) (hK : ∀ ls st μ, K ls st μ = some (r, μ9) → Wk p l e R s m args below meth c Q N0 G ro z xs L t.2.2.1 z0 y0 μ9 (pc + len) ls st μ) (hJ : ∀ b ls st μ, J b ls st μ = some (r, μ9) → Wk p l e R s m args below meth c Q N0 G ro z xs L t.2.2.1 z0 y0 μ9 (bpc t b) ls st μ) (h : x1 C J (.lconst n) as ls st μ K = some (r, μ9)) : Wk p l e R s m args below meth c Q N0 G ro z xs L t.2.2.1 z0 y0 μ9 pc ls st μ := by
  obtain ⟨hx, hb, hml, hown, hts, hmn, wf, hfr, hlo, hce, hsl⟩ := cx
  have ok2 : (decide (decode t.2.1 pc = .ok (.lconst n, len)) && Nat.beq len 1) = true := ok
  obtain ⟨hd, ok3⟩ := and2 ok2
  have hd := of_decide_eq_true hd
  obtain rfl : len = 1 := Nat.eq_of_beq_eq_true ok3
  obtain ⟨hm, hk⟩ := hK _ _ _ h
  refine ⟨hm, fun H locs Ls hR hS hL g1 g2 => ?_⟩
  exact lv_lconst hx hb hd rfl (hk H locs Ls hR hS hL g1 g2)
theorem s_iload {n : Nat} (cx : Cx p R s m args meth c N0 G ro z xs L t d z0 y0 μ9) (ok : okI t (pc, .iload n, len, as, ws) = true) (hK : ∀ ls st μ, K ls st μ = some (r, μ9) → Wk p l e R s m args below meth c Q N0 G ro z xs L t.2.2.1 z0 y0 μ9 (pc + len) ls st μ) (hJ : ∀ b ls st μ, J b ls st μ = some (r, μ9) → Wk p l e R s m args below meth c Q N0 G ro z xs L t.2.2.1 z0 y0 μ9 (bpc t b) ls st μ) (h : x1 C J (.iload n) as ls st μ K = some (r, μ9)) : Wk p l e R s m args below meth c Q N0 G ro z xs L t.2.2.1 z0 y0 μ9 pc ls st μ := by
  obtain ⟨hx, hb, hml, hown, hts, hmn, wf, hfr, hlo, hce, hsl⟩ := cx
  have ok2 : (decide (decode t.2.1 pc = .ok (.iload n, len)) && (Nat.beq len 2 && decide (n < t.2.2.1))) = true := ok
  obtain ⟨hd, ok3⟩ := and2 ok2
  have hd := of_decide_eq_true hd
  obtain ⟨ok4, ok5⟩ := and2 ok3
  obtain rfl : len = 2 := Nat.eq_of_beq_eq_true ok4
  obtain ⟨j, v, hj, h1⟩ := lgt_inv h
  obtain ⟨x, rfl, h2⟩ := asI_inv h1
  obtain ⟨hm, hk⟩ := hK _ _ _ h2
  refine ⟨hm, fun H locs Ls hR hS hL g1 g2 => ?_⟩
  exact lv_iload hx hb hd (lv_at hL j (cl2_get hj)) (hk H locs Ls hR hS hL g1 g2)
theorem s_iload_n {n : Fin 4} (cx : Cx p R s m args meth c N0 G ro z xs L t d z0 y0 μ9) (ok : okI t (pc, .iload_n n, len, as, ws) = true) (hK : ∀ ls st μ, K ls st μ = some (r, μ9) → Wk p l e R s m args below meth c Q N0 G ro z xs L t.2.2.1 z0 y0 μ9 (pc + len) ls st μ) (hJ : ∀ b ls st μ, J b ls st μ = some (r, μ9) → Wk p l e R s m args below meth c Q N0 G ro z xs L t.2.2.1 z0 y0 μ9 (bpc t b) ls st μ) (h : x1 C J (.iload_n n) as ls st μ K = some (r, μ9)) : Wk p l e R s m args below meth c Q N0 G ro z xs L t.2.2.1 z0 y0 μ9 pc ls st μ := by
  obtain ⟨hx, hb, hml, hown, hts, hmn, wf, hfr, hlo, hce, hsl⟩ := cx
  have ok2 : (decide (decode t.2.1 pc = .ok (.iload_n n, len)) && Nat.beq len 1) = true := ok
  obtain ⟨hd, ok3⟩ := and2 ok2
  have hd := of_decide_eq_true hd
  obtain rfl : len = 1 := Nat.eq_of_beq_eq_true ok3
  obtain ⟨j, v, hj, h1⟩ := lgt_inv h
  obtain ⟨x, rfl, h2⟩ := asI_inv h1
  obtain ⟨hm, hk⟩ := hK _ _ _ h2
  refine ⟨hm, fun H locs Ls hR hS hL g1 g2 => ?_⟩
  exact lv_iload_n hx hb hd rfl (lv_at hL j (cl2_get hj)) (hk H locs Ls hR hS hL g1 g2)
theorem s_lload {n : Nat} (cx : Cx p R s m args meth c N0 G ro z xs L t d z0 y0 μ9) (ok : okI t (pc, .lload n, len, as, ws) = true) (hK : ∀ ls st μ, K ls st μ = some (r, μ9) → Wk p l e R s m args below meth c Q N0 G ro z xs L t.2.2.1 z0 y0 μ9 (pc + len) ls st μ) (hJ : ∀ b ls st μ, J b ls st μ = some (r, μ9) → Wk p l e R s m args below meth c Q N0 G ro z xs L t.2.2.1 z0 y0 μ9 (bpc t b) ls st μ) (h : x1 C J (.lload n) as ls st μ K = some (r, μ9)) : Wk p l e R s m args below meth c Q N0 G ro z xs L t.2.2.1 z0 y0 μ9 pc ls st μ := by
  obtain ⟨hx, hb, hml, hown, hts, hmn, wf, hfr, hlo, hce, hsl⟩ := cx
  have ok2 : (decide (decode t.2.1 pc = .ok (.lload n, len)) && (Nat.beq len 2 && decide (n < t.2.2.1))) = true := ok
  obtain ⟨hd, ok3⟩ := and2 ok2
  have hd := of_decide_eq_true hd
  obtain ⟨ok4, ok5⟩ := and2 ok3
  obtain rfl : len = 2 := Nat.eq_of_beq_eq_true ok4
  obtain ⟨j, v, hj, h1⟩ := lgt_inv h
  obtain ⟨x, rfl, h2⟩ := asL_inv h1
  obtain ⟨hm, hk⟩ := hK _ _ _ h2
  refine ⟨hm, fun H locs Ls hR hS hL g1 g2 => ?_⟩
  exact lv_lload hx hb hd (lv_at hL j (cl2_get hj)) (hk H locs Ls hR hS hL g1 g2)
theorem s_lload_n {n : Fin 4} (cx : Cx p R s m args meth c N0 G ro z xs L t d z0 y0 μ9) (ok : okI t (pc, .lload_n n, len, as, ws) = true) (hK : ∀ ls st μ, K ls st μ = some (r, μ9) → Wk p l e R s m args below meth c Q N0 G ro z xs L t.2.2.1 z0 y0 μ9 (pc + len) ls st μ) (hJ : ∀ b ls st μ, J b ls st μ = some (r, μ9) → Wk p l e R s m args below meth c Q N0 G ro z xs L t.2.2.1 z0 y0 μ9 (bpc t b) ls st μ) (h : x1 C J (.lload_n n) as ls st μ K = some (r, μ9)) : Wk p l e R s m args below meth c Q N0 G ro z xs L t.2.2.1 z0 y0 μ9 pc ls st μ := by
  obtain ⟨hx, hb, hml, hown, hts, hmn, wf, hfr, hlo, hce, hsl⟩ := cx
  have ok2 : (decide (decode t.2.1 pc = .ok (.lload_n n, len)) && Nat.beq len 1) = true := ok
  obtain ⟨hd, ok3⟩ := and2 ok2
  have hd := of_decide_eq_true hd
  obtain rfl : len = 1 := Nat.eq_of_beq_eq_true ok3
  obtain ⟨j, v, hj, h1⟩ := lgt_inv h
  obtain ⟨x, rfl, h2⟩ := asL_inv h1
  obtain ⟨hm, hk⟩ := hK _ _ _ h2
  refine ⟨hm, fun H locs Ls hR hS hL g1 g2 => ?_⟩
  exact lv_lload_n hx hb hd rfl (lv_at hL j (cl2_get hj)) (hk H locs Ls hR hS hL g1 g2)
theorem s_aload {n : Nat} (cx : Cx p R s m args meth c N0 G ro z xs L t d z0 y0 μ9) (ok : okI t (pc, .aload n, len, as, ws) = true) (hK : ∀ ls st μ, K ls st μ = some (r, μ9) → Wk p l e R s m args below meth c Q N0 G ro z xs L t.2.2.1 z0 y0 μ9 (pc + len) ls st μ) (hJ : ∀ b ls st μ, J b ls st μ = some (r, μ9) → Wk p l e R s m args below meth c Q N0 G ro z xs L t.2.2.1 z0 y0 μ9 (bpc t b) ls st μ) (h : x1 C J (.aload n) as ls st μ K = some (r, μ9)) : Wk p l e R s m args below meth c Q N0 G ro z xs L t.2.2.1 z0 y0 μ9 pc ls st μ := by
  obtain ⟨hx, hb, hml, hown, hts, hmn, wf, hfr, hlo, hce, hsl⟩ := cx
  have ok2 : (decide (decode t.2.1 pc = .ok (.aload n, len)) && (Nat.beq len 2 && decide (n < t.2.2.1))) = true := ok
  obtain ⟨hd, ok3⟩ := and2 ok2
  have hd := of_decide_eq_true hd
  obtain ⟨ok4, ok5⟩ := and2 ok3
  obtain rfl : len = 2 := Nat.eq_of_beq_eq_true ok4
  obtain ⟨j, v, hj, h1⟩ := lgt_inv h
  rcases asN_inv h1 with ⟨rfl, h2⟩ | ⟨x, rfl, h2⟩
  · obtain ⟨hm, hk⟩ := hK _ _ _ h2
    exact ⟨hm, fun H locs Ls hR hS hL g1 g2 => lv_aloadN hx hb hd (lv_at hL j (cl2_get hj)) (hk H locs Ls hR hS hL g1 g2)⟩
  · obtain ⟨hm, hk⟩ := hK _ _ _ h2
    exact ⟨hm, fun H locs Ls hR hS hL g1 g2 => lv_aload hx hb hd (lv_at hL j (cl2_get hj)) (hk H locs Ls hR hS hL g1 g2)⟩
theorem s_aload_n {n : Fin 4} (cx : Cx p R s m args meth c N0 G ro z xs L t d z0 y0 μ9) (ok : okI t (pc, .aload_n n, len, as, ws) = true) (hK : ∀ ls st μ, K ls st μ = some (r, μ9) → Wk p l e R s m args below meth c Q N0 G ro z xs L t.2.2.1 z0 y0 μ9 (pc + len) ls st μ) (hJ : ∀ b ls st μ, J b ls st μ = some (r, μ9) → Wk p l e R s m args below meth c Q N0 G ro z xs L t.2.2.1 z0 y0 μ9 (bpc t b) ls st μ) (h : x1 C J (.aload_n n) as ls st μ K = some (r, μ9)) : Wk p l e R s m args below meth c Q N0 G ro z xs L t.2.2.1 z0 y0 μ9 pc ls st μ := by
  obtain ⟨hx, hb, hml, hown, hts, hmn, wf, hfr, hlo, hce, hsl⟩ := cx
  have ok2 : (decide (decode t.2.1 pc = .ok (.aload_n n, len)) && Nat.beq len 1) = true := ok
  obtain ⟨hd, ok3⟩ := and2 ok2
  have hd := of_decide_eq_true hd
  obtain rfl : len = 1 := Nat.eq_of_beq_eq_true ok3
  obtain ⟨j, v, hj, h1⟩ := lgt_inv h
  rcases asN_inv h1 with ⟨rfl, h2⟩ | ⟨x, rfl, h2⟩
  · obtain ⟨hm, hk⟩ := hK _ _ _ h2
    exact ⟨hm, fun H locs Ls hR hS hL g1 g2 => lv_aload_nN hx hb hd rfl (lv_at hL j (cl2_get hj)) (hk H locs Ls hR hS hL g1 g2)⟩
  · obtain ⟨hm, hk⟩ := hK _ _ _ h2
    exact ⟨hm, fun H locs Ls hR hS hL g1 g2 => lv_aload_n hx hb hd rfl (lv_at hL j (cl2_get hj)) (hk H locs Ls hR hS hL g1 g2)⟩
theorem s_istore {n : Nat} (cx : Cx p R s m args meth c N0 G ro z xs L t d z0 y0 μ9) (ok : okI t (pc, .istore n, len, as, ws) = true) (hK : ∀ ls st μ, K ls st μ = some (r, μ9) → Wk p l e R s m args below meth c Q N0 G ro z xs L t.2.2.1 z0 y0 μ9 (pc + len) ls st μ) (hJ : ∀ b ls st μ, J b ls st μ = some (r, μ9) → Wk p l e R s m args below meth c Q N0 G ro z xs L t.2.2.1 z0 y0 μ9 (bpc t b) ls st μ) (h : x1 C J (.istore n) as ls st μ K = some (r, μ9)) : Wk p l e R s m args below meth c Q N0 G ro z xs L t.2.2.1 z0 y0 μ9 pc ls st μ := by
  obtain ⟨hx, hb, hml, hown, hts, hmn, wf, hfr, hlo, hce, hsl⟩ := cx
  have ok2 : (decide (decode t.2.1 pc = .ok (.istore n, len)) && (Nat.beq len 2 && decide (n < t.2.2.1))) = true := ok
  obtain ⟨hd, ok3⟩ := and2 ok2
  have hd := of_decide_eq_true hd
  obtain ⟨ok4, ok5⟩ := and2 ok3
  obtain rfl : len = 2 := Nat.eq_of_beq_eq_true ok4
  obtain ⟨x, st, rfl, h1⟩ := ppI_inv h
  obtain ⟨hm, hk⟩ := hK _ _ _ h1
  refine ⟨hm, fun H locs Ls hR hS hL g1 g2 => ?_⟩
  exact lv_istore hx hb hd hL (of_decide_eq_true ok5) (cl2_lst1 wf.1.2 _ _ (.int x)) (fun ls' hl' => hk H locs ls' hR hS hl' g1 g2)
theorem s_istore_n {n : Fin 4} (cx : Cx p R s m args meth c N0 G ro z xs L t d z0 y0 μ9) (ok : okI t (pc, .istore_n n, len, as, ws) = true) (hK : ∀ ls st μ, K ls st μ = some (r, μ9) → Wk p l e R s m args below meth c Q N0 G ro z xs L t.2.2.1 z0 y0 μ9 (pc + len) ls st μ) (hJ : ∀ b ls st μ, J b ls st μ = some (r, μ9) → Wk p l e R s m args below meth c Q N0 G ro z xs L t.2.2.1 z0 y0 μ9 (bpc t b) ls st μ) (h : x1 C J (.istore_n n) as ls st μ K = some (r, μ9)) : Wk p l e R s m args below meth c Q N0 G ro z xs L t.2.2.1 z0 y0 μ9 pc ls st μ := by
  obtain ⟨hx, hb, hml, hown, hts, hmn, wf, hfr, hlo, hce, hsl⟩ := cx
  have ok2 : (decide (decode t.2.1 pc = .ok (.istore_n n, len)) && (Nat.beq len 1 && decide ((n : Nat) < t.2.2.1))) = true := ok
  obtain ⟨hd, ok3⟩ := and2 ok2
  have hd := of_decide_eq_true hd
  obtain ⟨ok4, ok5⟩ := and2 ok3
  obtain rfl : len = 1 := Nat.eq_of_beq_eq_true ok4
  obtain ⟨x, st, rfl, h1⟩ := ppI_inv h
  obtain ⟨hm, hk⟩ := hK _ _ _ h1
  refine ⟨hm, fun H locs Ls hR hS hL g1 g2 => ?_⟩
  exact lv_istore_n hx hb hd rfl hL (of_decide_eq_true ok5) (cl2_lst1 wf.1.2 _ _ (.int x)) (fun ls' hl' => hk H locs ls' hR hS hl' g1 g2)
theorem s_lstore {n : Nat} (cx : Cx p R s m args meth c N0 G ro z xs L t d z0 y0 μ9) (ok : okI t (pc, .lstore n, len, as, ws) = true) (hK : ∀ ls st μ, K ls st μ = some (r, μ9) → Wk p l e R s m args below meth c Q N0 G ro z xs L t.2.2.1 z0 y0 μ9 (pc + len) ls st μ) (hJ : ∀ b ls st μ, J b ls st μ = some (r, μ9) → Wk p l e R s m args below meth c Q N0 G ro z xs L t.2.2.1 z0 y0 μ9 (bpc t b) ls st μ) (h : x1 C J (.lstore n) as ls st μ K = some (r, μ9)) : Wk p l e R s m args below meth c Q N0 G ro z xs L t.2.2.1 z0 y0 μ9 pc ls st μ := by
  obtain ⟨hx, hb, hml, hown, hts, hmn, wf, hfr, hlo, hce, hsl⟩ := cx
  have ok2 : (decide (decode t.2.1 pc = .ok (.lstore n, len)) && (Nat.beq len 2 && decide (n + 1 < t.2.2.1))) = true := ok
  obtain ⟨hd, ok3⟩ := and2 ok2
  have hd := of_decide_eq_true hd
  obtain ⟨ok4, ok5⟩ := and2 ok3
  obtain rfl : len = 2 := Nat.eq_of_beq_eq_true ok4
  obtain ⟨x, st, rfl, h1⟩ := ppL_inv h
  obtain ⟨hm, hk⟩ := hK _ _ _ h1
  refine ⟨hm, fun H locs Ls hR hS hL g1 g2 => ?_⟩
  exact lv_lstore hx hb hd hL (of_decide_eq_true ok5) (cl2_lst2 wf.1.2 _ _ (.long x)) (fun ls' hl' => hk H locs ls' hR hS hl' g1 g2)
theorem s_lstore_n {n : Fin 4} (cx : Cx p R s m args meth c N0 G ro z xs L t d z0 y0 μ9) (ok : okI t (pc, .lstore_n n, len, as, ws) = true) (hK : ∀ ls st μ, K ls st μ = some (r, μ9) → Wk p l e R s m args below meth c Q N0 G ro z xs L t.2.2.1 z0 y0 μ9 (pc + len) ls st μ) (hJ : ∀ b ls st μ, J b ls st μ = some (r, μ9) → Wk p l e R s m args below meth c Q N0 G ro z xs L t.2.2.1 z0 y0 μ9 (bpc t b) ls st μ) (h : x1 C J (.lstore_n n) as ls st μ K = some (r, μ9)) : Wk p l e R s m args below meth c Q N0 G ro z xs L t.2.2.1 z0 y0 μ9 pc ls st μ := by
  obtain ⟨hx, hb, hml, hown, hts, hmn, wf, hfr, hlo, hce, hsl⟩ := cx
  have ok2 : (decide (decode t.2.1 pc = .ok (.lstore_n n, len)) && (Nat.beq len 1 && decide ((n : Nat) + 1 < t.2.2.1))) = true := ok
  obtain ⟨hd, ok3⟩ := and2 ok2
  have hd := of_decide_eq_true hd
  obtain ⟨ok4, ok5⟩ := and2 ok3
  obtain rfl : len = 1 := Nat.eq_of_beq_eq_true ok4
  obtain ⟨x, st, rfl, h1⟩ := ppL_inv h
  obtain ⟨hm, hk⟩ := hK _ _ _ h1
  refine ⟨hm, fun H locs Ls hR hS hL g1 g2 => ?_⟩
  exact lv_lstore_n hx hb hd rfl hL (of_decide_eq_true ok5) (cl2_lst2 wf.1.2 _ _ (.long x)) (fun ls' hl' => hk H locs ls' hR hS hl' g1 g2)
theorem s_astore {n : Nat} (cx : Cx p R s m args meth c N0 G ro z xs L t d z0 y0 μ9) (ok : okI t (pc, .astore n, len, as, ws) = true) (hK : ∀ ls st μ, K ls st μ = some (r, μ9) → Wk p l e R s m args below meth c Q N0 G ro z xs L t.2.2.1 z0 y0 μ9 (pc + len) ls st μ) (hJ : ∀ b ls st μ, J b ls st μ = some (r, μ9) → Wk p l e R s m args below meth c Q N0 G ro z xs L t.2.2.1 z0 y0 μ9 (bpc t b) ls st μ) (h : x1 C J (.astore n) as ls st μ K = some (r, μ9)) : Wk p l e R s m args below meth c Q N0 G ro z xs L t.2.2.1 z0 y0 μ9 pc ls st μ := by
  obtain ⟨hx, hb, hml, hown, hts, hmn, wf, hfr, hlo, hce, hsl⟩ := cx
  have ok2 : (decide (decode t.2.1 pc = .ok (.astore n, len)) && (Nat.beq len 2 && decide (n < t.2.2.1))) = true := ok
  obtain ⟨hd, ok3⟩ := and2 ok2
  have hd := of_decide_eq_true hd
  obtain ⟨ok4, ok5⟩ := and2 ok3
  obtain rfl : len = 2 := Nat.eq_of_beq_eq_true ok4
  obtain ⟨v, st, rfl, h1⟩ := p1_inv h
  rcases asN_inv h1 with ⟨rfl, h2⟩ | ⟨x, rfl, h2⟩
  · obtain ⟨hm, hk⟩ := hK _ _ _ h2
    exact ⟨hm, fun H locs Ls hR hS hL g1 g2 => lv_astoreN hx hb hd  hL (of_decide_eq_true ok5) (cl2_lst1 wf.1.2 _ _ .null) (fun ls' hl' => hk H locs ls' hR hS hl' g1 g2)⟩
  · obtain ⟨hm, hk⟩ := hK _ _ _ h2
    exact ⟨hm, fun H locs Ls hR hS hL g1 g2 => lv_astore hx hb hd  hL (of_decide_eq_true ok5) (cl2_lst1 wf.1.2 _ _ (.ref x)) (fun ls' hl' => hk H locs ls' hR hS hl' g1 g2)⟩
theorem s_astore_n {n : Fin 4} (cx : Cx p R s m args meth c N0 G ro z xs L t d z0 y0 μ9) (ok : okI t (pc, .astore_n n, len, as, ws) = true) (hK : ∀ ls st μ, K ls st μ = some (r, μ9) → Wk p l e R s m args below meth c Q N0 G ro z xs L t.2.2.1 z0 y0 μ9 (pc + len) ls st μ) (hJ : ∀ b ls st μ, J b ls st μ = some (r, μ9) → Wk p l e R s m args below meth c Q N0 G ro z xs L t.2.2.1 z0 y0 μ9 (bpc t b) ls st μ) (h : x1 C J (.astore_n n) as ls st μ K = some (r, μ9)) : Wk p l e R s m args below meth c Q N0 G ro z xs L t.2.2.1 z0 y0 μ9 pc ls st μ := by
  obtain ⟨hx, hb, hml, hown, hts, hmn, wf, hfr, hlo, hce, hsl⟩ := cx
  have ok2 : (decide (decode t.2.1 pc = .ok (.astore_n n, len)) && (Nat.beq len 1 && decide ((n : Nat) < t.2.2.1))) = true := ok
  obtain ⟨hd, ok3⟩ := and2 ok2
  have hd := of_decide_eq_true hd
  obtain ⟨ok4, ok5⟩ := and2 ok3
  obtain rfl : len = 1 := Nat.eq_of_beq_eq_true ok4
  obtain ⟨v, st, rfl, h1⟩ := p1_inv h
  rcases asN_inv h1 with ⟨rfl, h2⟩ | ⟨x, rfl, h2⟩
  · obtain ⟨hm, hk⟩ := hK _ _ _ h2
    exact ⟨hm, fun H locs Ls hR hS hL g1 g2 => lv_astore_nN hx hb hd rfl hL (of_decide_eq_true ok5) (cl2_lst1 wf.1.2 _ _ .null) (fun ls' hl' => hk H locs ls' hR hS hl' g1 g2)⟩
  · obtain ⟨hm, hk⟩ := hK _ _ _ h2
    exact ⟨hm, fun H locs Ls hR hS hL g1 g2 => lv_astore_n hx hb hd rfl hL (of_decide_eq_true ok5) (cl2_lst1 wf.1.2 _ _ (.ref x)) (fun ls' hl' => hk H locs ls' hR hS hl' g1 g2)⟩
theorem s_iinc {n : Nat} {q : Int} (cx : Cx p R s m args meth c N0 G ro z xs L t d z0 y0 μ9) (ok : okI t (pc, .iinc n q, len, as, ws) = true) (hK : ∀ ls st μ, K ls st μ = some (r, μ9) → Wk p l e R s m args below meth c Q N0 G ro z xs L t.2.2.1 z0 y0 μ9 (pc + len) ls st μ) (hJ : ∀ b ls st μ, J b ls st μ = some (r, μ9) → Wk p l e R s m args below meth c Q N0 G ro z xs L t.2.2.1 z0 y0 μ9 (bpc t b) ls st μ) (h : x1 C J (.iinc n q) as ls st μ K = some (r, μ9)) : Wk p l e R s m args below meth c Q N0 G ro z xs L t.2.2.1 z0 y0 μ9 pc ls st μ := by
  obtain ⟨hx, hb, hml, hown, hts, hmn, wf, hfr, hlo, hce, hsl⟩ := cx
  have ok2 : (decide (decode t.2.1 pc = .ok (.iinc n q, len)) && (Nat.beq len 3 && decide (n < t.2.2.1))) = true := ok
  obtain ⟨hd, ok3⟩ := and2 ok2
  have hd := of_decide_eq_true hd
  obtain ⟨ok4, ok5⟩ := and2 ok3
  obtain rfl : len = 3 := Nat.eq_of_beq_eq_true ok4
  obtain ⟨j, v, hj, h1⟩ := lgt_inv h
  obtain ⟨x, rfl, h2⟩ := asI_inv h1
  obtain ⟨hm, hk⟩ := hK _ _ _ h2
  refine ⟨hm, fun H locs Ls hR hS hL g1 g2 => ?_⟩
  exact lv_iinc hx hb hd hL (k := j) (cl2_get hj) rfl (of_decide_eq_true ok5) (cl2_lst1 wf.1.2 _ _ (.int (x + Int32.ofInt q))) (fun ls' hl' => hk H locs ls' hR hS hl' g1 g2)
theorem s_iadd  (cx : Cx p R s m args meth c N0 G ro z xs L t d z0 y0 μ9) (ok : okI t (pc, .iadd, len, as, ws) = true) (hK : ∀ ls st μ, K ls st μ = some (r, μ9) → Wk p l e R s m args below meth c Q N0 G ro z xs L t.2.2.1 z0 y0 μ9 (pc + len) ls st μ) (hJ : ∀ b ls st μ, J b ls st μ = some (r, μ9) → Wk p l e R s m args below meth c Q N0 G ro z xs L t.2.2.1 z0 y0 μ9 (bpc t b) ls st μ) (h : x1 C J (.iadd) as ls st μ K = some (r, μ9)) : Wk p l e R s m args below meth c Q N0 G ro z xs L t.2.2.1 z0 y0 μ9 pc ls st μ := by
  obtain ⟨hx, hb, hml, hown, hts, hmn, wf, hfr, hlo, hce, hsl⟩ := cx
  have ok2 : (decide (decode t.2.1 pc = .ok (.iadd, len)) && Nat.beq len 1) = true := ok
  obtain ⟨hd, ok3⟩ := and2 ok2
  have hd := of_decide_eq_true hd
  obtain rfl : len = 1 := Nat.eq_of_beq_eq_true ok3
  obtain ⟨y, st, rfl, h1⟩ := ppI_inv h
  obtain ⟨x, st, rfl, h2⟩ := ppI_inv h1
  obtain ⟨hm, hk⟩ := hK _ _ _ h2
  refine ⟨hm, fun H locs Ls hR hS hL g1 g2 => ?_⟩
  exact lv_iadd hx hb hd (hk H locs Ls hR hS hL g1 g2)
theorem s_isub  (cx : Cx p R s m args meth c N0 G ro z xs L t d z0 y0 μ9) (ok : okI t (pc, .isub, len, as, ws) = true) (hK : ∀ ls st μ, K ls st μ = some (r, μ9) → Wk p l e R s m args below meth c Q N0 G ro z xs L t.2.2.1 z0 y0 μ9 (pc + len) ls st μ) (hJ : ∀ b ls st μ, J b ls st μ = some (r, μ9) → Wk p l e R s m args below meth c Q N0 G ro z xs L t.2.2.1 z0 y0 μ9 (bpc t b) ls st μ) (h : x1 C J (.isub) as ls st μ K = some (r, μ9)) : Wk p l e R s m args below meth c Q N0 G ro z xs L t.2.2.1 z0 y0 μ9 pc ls st μ := by
  obtain ⟨hx, hb, hml, hown, hts, hmn, wf, hfr, hlo, hce, hsl⟩ := cx
  have ok2 : (decide (decode t.2.1 pc = .ok (.isub, len)) && Nat.beq len 1) = true := ok
  obtain ⟨hd, ok3⟩ := and2 ok2
  have hd := of_decide_eq_true hd
  obtain rfl : len = 1 := Nat.eq_of_beq_eq_true ok3
  obtain ⟨y, st, rfl, h1⟩ := ppI_inv h
  obtain ⟨x, st, rfl, h2⟩ := ppI_inv h1
  obtain ⟨hm, hk⟩ := hK _ _ _ h2
  refine ⟨hm, fun H locs Ls hR hS hL g1 g2 => ?_⟩
  exact lv_isub hx hb hd (hk H locs Ls hR hS hL g1 g2)
theorem s_imul  (cx : Cx p R s m args meth c N0 G ro z xs L t d z0 y0 μ9) (ok : okI t (pc, .imul, len, as, ws) = true) (hK : ∀ ls st μ, K ls st μ = some (r, μ9) → Wk p l e R s m args below meth c Q N0 G ro z xs L t.2.2.1 z0 y0 μ9 (pc + len) ls st μ) (hJ : ∀ b ls st μ, J b ls st μ = some (r, μ9) → Wk p l e R s m args below meth c Q N0 G ro z xs L t.2.2.1 z0 y0 μ9 (bpc t b) ls st μ) (h : x1 C J (.imul) as ls st μ K = some (r, μ9)) : Wk p l e R s m args below meth c Q N0 G ro z xs L t.2.2.1 z0 y0 μ9 pc ls st μ := by
  obtain ⟨hx, hb, hml, hown, hts, hmn, wf, hfr, hlo, hce, hsl⟩ := cx
  have ok2 : (decide (decode t.2.1 pc = .ok (.imul, len)) && Nat.beq len 1) = true := ok
  obtain ⟨hd, ok3⟩ := and2 ok2
  have hd := of_decide_eq_true hd
  obtain rfl : len = 1 := Nat.eq_of_beq_eq_true ok3
  obtain ⟨y, st, rfl, h1⟩ := ppI_inv h
  obtain ⟨x, st, rfl, h2⟩ := ppI_inv h1
  obtain ⟨hm, hk⟩ := hK _ _ _ h2
  refine ⟨hm, fun H locs Ls hR hS hL g1 g2 => ?_⟩
  exact lv_imul hx hb hd (hk H locs Ls hR hS hL g1 g2)
theorem s_iand  (cx : Cx p R s m args meth c N0 G ro z xs L t d z0 y0 μ9) (ok : okI t (pc, .iand, len, as, ws) = true) (hK : ∀ ls st μ, K ls st μ = some (r, μ9) → Wk p l e R s m args below meth c Q N0 G ro z xs L t.2.2.1 z0 y0 μ9 (pc + len) ls st μ) (hJ : ∀ b ls st μ, J b ls st μ = some (r, μ9) → Wk p l e R s m args below meth c Q N0 G ro z xs L t.2.2.1 z0 y0 μ9 (bpc t b) ls st μ) (h : x1 C J (.iand) as ls st μ K = some (r, μ9)) : Wk p l e R s m args below meth c Q N0 G ro z xs L t.2.2.1 z0 y0 μ9 pc ls st μ := by
  obtain ⟨hx, hb, hml, hown, hts, hmn, wf, hfr, hlo, hce, hsl⟩ := cx
  have ok2 : (decide (decode t.2.1 pc = .ok (.iand, len)) && Nat.beq len 1) = true := ok
  obtain ⟨hd, ok3⟩ := and2 ok2
  have hd := of_decide_eq_true hd
  obtain rfl : len = 1 := Nat.eq_of_beq_eq_true ok3
  obtain ⟨y, st, rfl, h1⟩ := ppI_inv h
  obtain ⟨x, st, rfl, h2⟩ := ppI_inv h1
  obtain ⟨hm, hk⟩ := hK _ _ _ h2
  refine ⟨hm, fun H locs Ls hR hS hL g1 g2 => ?_⟩
  exact lv_iand hx hb hd (hk H locs Ls hR hS hL g1 g2)
theorem s_ior  (cx : Cx p R s m args meth c N0 G ro z xs L t d z0 y0 μ9) (ok : okI t (pc, .ior, len, as, ws) = true) (hK : ∀ ls st μ, K ls st μ = some (r, μ9) → Wk p l e R s m args below meth c Q N0 G ro z xs L t.2.2.1 z0 y0 μ9 (pc + len) ls st μ) (hJ : ∀ b ls st μ, J b ls st μ = some (r, μ9) → Wk p l e R s m args below meth c Q N0 G ro z xs L t.2.2.1 z0 y0 μ9 (bpc t b) ls st μ) (h : x1 C J (.ior) as ls st μ K = some (r, μ9)) : Wk p l e R s m args below meth c Q N0 G ro z xs L t.2.2.1 z0 y0 μ9 pc ls st μ := by
  obtain ⟨hx, hb, hml, hown, hts, hmn, wf, hfr, hlo, hce, hsl⟩ := cx
  have ok2 : (decide (decode t.2.1 pc = .ok (.ior, len)) && Nat.beq len 1) = true := ok
  obtain ⟨hd, ok3⟩ := and2 ok2
  have hd := of_decide_eq_true hd
  obtain rfl : len = 1 := Nat.eq_of_beq_eq_true ok3
  obtain ⟨y, st, rfl, h1⟩ := ppI_inv h
  obtain ⟨x, st, rfl, h2⟩ := ppI_inv h1
  obtain ⟨hm, hk⟩ := hK _ _ _ h2
  refine ⟨hm, fun H locs Ls hR hS hL g1 g2 => ?_⟩
  exact lv_ior hx hb hd (hk H locs Ls hR hS hL g1 g2)
theorem s_ixor  (cx : Cx p R s m args meth c N0 G ro z xs L t d z0 y0 μ9) (ok : okI t (pc, .ixor, len, as, ws) = true) (hK : ∀ ls st μ, K ls st μ = some (r, μ9) → Wk p l e R s m args below meth c Q N0 G ro z xs L t.2.2.1 z0 y0 μ9 (pc + len) ls st μ) (hJ : ∀ b ls st μ, J b ls st μ = some (r, μ9) → Wk p l e R s m args below meth c Q N0 G ro z xs L t.2.2.1 z0 y0 μ9 (bpc t b) ls st μ) (h : x1 C J (.ixor) as ls st μ K = some (r, μ9)) : Wk p l e R s m args below meth c Q N0 G ro z xs L t.2.2.1 z0 y0 μ9 pc ls st μ := by
  obtain ⟨hx, hb, hml, hown, hts, hmn, wf, hfr, hlo, hce, hsl⟩ := cx
  have ok2 : (decide (decode t.2.1 pc = .ok (.ixor, len)) && Nat.beq len 1) = true := ok
  obtain ⟨hd, ok3⟩ := and2 ok2
  have hd := of_decide_eq_true hd
  obtain rfl : len = 1 := Nat.eq_of_beq_eq_true ok3
  obtain ⟨y, st, rfl, h1⟩ := ppI_inv h
  obtain ⟨x, st, rfl, h2⟩ := ppI_inv h1
  obtain ⟨hm, hk⟩ := hK _ _ _ h2
  refine ⟨hm, fun H locs Ls hR hS hL g1 g2 => ?_⟩
  exact lv_ixor hx hb hd (hk H locs Ls hR hS hL g1 g2)
theorem s_ishl  (cx : Cx p R s m args meth c N0 G ro z xs L t d z0 y0 μ9) (ok : okI t (pc, .ishl, len, as, ws) = true) (hK : ∀ ls st μ, K ls st μ = some (r, μ9) → Wk p l e R s m args below meth c Q N0 G ro z xs L t.2.2.1 z0 y0 μ9 (pc + len) ls st μ) (hJ : ∀ b ls st μ, J b ls st μ = some (r, μ9) → Wk p l e R s m args below meth c Q N0 G ro z xs L t.2.2.1 z0 y0 μ9 (bpc t b) ls st μ) (h : x1 C J (.ishl) as ls st μ K = some (r, μ9)) : Wk p l e R s m args below meth c Q N0 G ro z xs L t.2.2.1 z0 y0 μ9 pc ls st μ := by
  obtain ⟨hx, hb, hml, hown, hts, hmn, wf, hfr, hlo, hce, hsl⟩ := cx
  have ok2 : (decide (decode t.2.1 pc = .ok (.ishl, len)) && Nat.beq len 1) = true := ok
  obtain ⟨hd, ok3⟩ := and2 ok2
  have hd := of_decide_eq_true hd
  obtain rfl : len = 1 := Nat.eq_of_beq_eq_true ok3
  obtain ⟨y, st, rfl, h1⟩ := ppI_inv h
  obtain ⟨x, st, rfl, h2⟩ := ppI_inv h1
  obtain ⟨hm, hk⟩ := hK _ _ _ h2
  refine ⟨hm, fun H locs Ls hR hS hL g1 g2 => ?_⟩
  exact lv_ishl hx hb hd (hk H locs Ls hR hS hL g1 g2)
theorem s_ishr  (cx : Cx p R s m args meth c N0 G ro z xs L t d z0 y0 μ9) (ok : okI t (pc, .ishr, len, as, ws) = true) (hK : ∀ ls st μ, K ls st μ = some (r, μ9) → Wk p l e R s m args below meth c Q N0 G ro z xs L t.2.2.1 z0 y0 μ9 (pc + len) ls st μ) (hJ : ∀ b ls st μ, J b ls st μ = some (r, μ9) → Wk p l e R s m args below meth c Q N0 G ro z xs L t.2.2.1 z0 y0 μ9 (bpc t b) ls st μ) (h : x1 C J (.ishr) as ls st μ K = some (r, μ9)) : Wk p l e R s m args below meth c Q N0 G ro z xs L t.2.2.1 z0 y0 μ9 pc ls st μ := by
  obtain ⟨hx, hb, hml, hown, hts, hmn, wf, hfr, hlo, hce, hsl⟩ := cx
  have ok2 : (decide (decode t.2.1 pc = .ok (.ishr, len)) && Nat.beq len 1) = true := ok
  obtain ⟨hd, ok3⟩ := and2 ok2
  have hd := of_decide_eq_true hd
  obtain rfl : len = 1 := Nat.eq_of_beq_eq_true ok3
  obtain ⟨y, st, rfl, h1⟩ := ppI_inv h
  obtain ⟨x, st, rfl, h2⟩ := ppI_inv h1
  obtain ⟨hm, hk⟩ := hK _ _ _ h2
  refine ⟨hm, fun H locs Ls hR hS hL g1 g2 => ?_⟩
  exact lv_ishr hx hb hd (hk H locs Ls hR hS hL g1 g2)
theorem s_ladd  (cx : Cx p R s m args meth c N0 G ro z xs L t d z0 y0 μ9) (ok : okI t (pc, .ladd, len, as, ws) = true) (hK : ∀ ls st μ, K ls st μ = some (r, μ9) → Wk p l e R s m args below meth c Q N0 G ro z xs L t.2.2.1 z0 y0 μ9 (pc + len) ls st μ) (hJ : ∀ b ls st μ, J b ls st μ = some (r, μ9) → Wk p l e R s m args below meth c Q N0 G ro z xs L t.2.2.1 z0 y0 μ9 (bpc t b) ls st μ) (h : x1 C J (.ladd) as ls st μ K = some (r, μ9)) : Wk p l e R s m args below meth c Q N0 G ro z xs L t.2.2.1 z0 y0 μ9 pc ls st μ := by
  obtain ⟨hx, hb, hml, hown, hts, hmn, wf, hfr, hlo, hce, hsl⟩ := cx
  have ok2 : (decide (decode t.2.1 pc = .ok (.ladd, len)) && Nat.beq len 1) = true := ok
  obtain ⟨hd, ok3⟩ := and2 ok2
  have hd := of_decide_eq_true hd
  obtain rfl : len = 1 := Nat.eq_of_beq_eq_true ok3
  obtain ⟨y, st, rfl, h1⟩ := ppL_inv h
  obtain ⟨x, st, rfl, h2⟩ := ppL_inv h1
  obtain ⟨hm, hk⟩ := hK _ _ _ h2
  refine ⟨hm, fun H locs Ls hR hS hL g1 g2 => ?_⟩
  exact lv_ladd hx hb hd (hk H locs Ls hR hS hL g1 g2)
theorem s_lsub  (cx : Cx p R s m args meth c N0 G ro z xs L t d z0 y0 μ9) (ok : okI t (pc, .lsub, len, as, ws) = true) (hK : ∀ ls st μ, K ls st μ = some (r, μ9) → Wk p l e R s m args below meth c Q N0 G ro z xs L t.2.2.1 z0 y0 μ9 (pc + len) ls st μ) (hJ : ∀ b ls st μ, J b ls st μ = some (r, μ9) → Wk p l e R s m args below meth c Q N0 G ro z xs L t.2.2.1 z0 y0 μ9 (bpc t b) ls st μ) (h : x1 C J (.lsub) as ls st μ K = some (r, μ9)) : Wk p l e R s m args below meth c Q N0 G ro z xs L t.2.2.1 z0 y0 μ9 pc ls st μ := by
  obtain ⟨hx, hb, hml, hown, hts, hmn, wf, hfr, hlo, hce, hsl⟩ := cx
  have ok2 : (decide (decode t.2.1 pc = .ok (.lsub, len)) && Nat.beq len 1) = true := ok
  obtain ⟨hd, ok3⟩ := and2 ok2
  have hd := of_decide_eq_true hd
  obtain rfl : len = 1 := Nat.eq_of_beq_eq_true ok3
  obtain ⟨y, st, rfl, h1⟩ := ppL_inv h
  obtain ⟨x, st, rfl, h2⟩ := ppL_inv h1
  obtain ⟨hm, hk⟩ := hK _ _ _ h2
  refine ⟨hm, fun H locs Ls hR hS hL g1 g2 => ?_⟩
  exact lv_lsub hx hb hd (hk H locs Ls hR hS hL g1 g2)
theorem s_lmul  (cx : Cx p R s m args meth c N0 G ro z xs L t d z0 y0 μ9) (ok : okI t (pc, .lmul, len, as, ws) = true) (hK : ∀ ls st μ, K ls st μ = some (r, μ9) → Wk p l e R s m args below meth c Q N0 G ro z xs L t.2.2.1 z0 y0 μ9 (pc + len) ls st μ) (hJ : ∀ b ls st μ, J b ls st μ = some (r, μ9) → Wk p l e R s m args below meth c Q N0 G ro z xs L t.2.2.1 z0 y0 μ9 (bpc t b) ls st μ) (h : x1 C J (.lmul) as ls st μ K = some (r, μ9)) : Wk p l e R s m args below meth c Q N0 G ro z xs L t.2.2.1 z0 y0 μ9 pc ls st μ := by
  obtain ⟨hx, hb, hml, hown, hts, hmn, wf, hfr, hlo, hce, hsl⟩ := cx
  have ok2 : (decide (decode t.2.1 pc = .ok (.lmul, len)) && Nat.beq len 1) = true := ok
  obtain ⟨hd, ok3⟩ := and2 ok2
  have hd := of_decide_eq_true hd
  obtain rfl : len = 1 := Nat.eq_of_beq_eq_true ok3
  obtain ⟨y, st, rfl, h1⟩ := ppL_inv h
  obtain ⟨x, st, rfl, h2⟩ := ppL_inv h1
  obtain ⟨hm, hk⟩ := hK _ _ _ h2
  refine ⟨hm, fun H locs Ls hR hS hL g1 g2 => ?_⟩
  exact lv_lmul hx hb hd (hk H locs Ls hR hS hL g1 g2)
theorem s_land  (cx : Cx p R s m args meth c N0 G ro z xs L t d z0 y0 μ9) (ok : okI t (pc, .land, len, as, ws) = true) (hK : ∀ ls st μ, K ls st μ = some (r, μ9) → Wk p l e R s m args below meth c Q N0 G ro z xs L t.2.2.1 z0 y0 μ9 (pc + len) ls st μ) (hJ : ∀ b ls st μ, J b ls st μ = some (r, μ9) → Wk p l e R s m args below meth c Q N0 G ro z xs L t.2.2.1 z0 y0 μ9 (bpc t b) ls st μ) (h : x1 C J (.land) as ls st μ K = some (r, μ9)) : Wk p l e R s m args below meth c Q N0 G ro z xs L t.2.2.1 z0 y0 μ9 pc ls st μ := by
  obtain ⟨hx, hb, hml, hown, hts, hmn, wf, hfr, hlo, hce, hsl⟩ := cx
  have ok2 : (decide (decode t.2.1 pc = .ok (.land, len)) && Nat.beq len 1) = true := ok
  obtain ⟨hd, ok3⟩ := and2 ok2
  have hd := of_decide_eq_true hd
  obtain rfl : len = 1 := Nat.eq_of_beq_eq_true ok3
  obtain ⟨y, st, rfl, h1⟩ := ppL_inv h
  obtain ⟨x, st, rfl, h2⟩ := ppL_inv h1
  obtain ⟨hm, hk⟩ := hK _ _ _ h2
  refine ⟨hm, fun H locs Ls hR hS hL g1 g2 => ?_⟩
  exact lv_land hx hb hd (hk H locs Ls hR hS hL g1 g2)
theorem s_idiv  (cx : Cx p R s m args meth c N0 G ro z xs L t d z0 y0 μ9) (ok : okI t (pc, .idiv, len, as, ws) = true) (hK : ∀ ls st μ, K ls st μ = some (r, μ9) → Wk p l e R s m args below meth c Q N0 G ro z xs L t.2.2.1 z0 y0 μ9 (pc + len) ls st μ) (hJ : ∀ b ls st μ, J b ls st μ = some (r, μ9) → Wk p l e R s m args below meth c Q N0 G ro z xs L t.2.2.1 z0 y0 μ9 (bpc t b) ls st μ) (h : x1 C J (.idiv) as ls st μ K = some (r, μ9)) : Wk p l e R s m args below meth c Q N0 G ro z xs L t.2.2.1 z0 y0 μ9 pc ls st μ := by
  obtain ⟨hx, hb, hml, hown, hts, hmn, wf, hfr, hlo, hce, hsl⟩ := cx
  have ok2 : (decide (decode t.2.1 pc = .ok (.idiv, len)) && Nat.beq len 1) = true := ok
  obtain ⟨hd, ok3⟩ := and2 ok2
  have hd := of_decide_eq_true hd
  obtain rfl : len = 1 := Nat.eq_of_beq_eq_true ok3
  obtain ⟨y, st, rfl, h1⟩ := ppI_inv h
  obtain ⟨x, st, rfl, h2⟩ := ppI_inv h1
  obtain ⟨hy, h3⟩ := gd_inv h2
  obtain ⟨hm, hk⟩ := hK _ _ _ h3
  refine ⟨hm, fun H locs Ls hR hS hL g1 g2 => ?_⟩
  exact lv_idiv hx hb hd (by simpa using hy) (hk H locs Ls hR hS hL g1 g2)
theorem s_irem  (cx : Cx p R s m args meth c N0 G ro z xs L t d z0 y0 μ9) (ok : okI t (pc, .irem, len, as, ws) = true) (hK : ∀ ls st μ, K ls st μ = some (r, μ9) → Wk p l e R s m args below meth c Q N0 G ro z xs L t.2.2.1 z0 y0 μ9 (pc + len) ls st μ) (hJ : ∀ b ls st μ, J b ls st μ = some (r, μ9) → Wk p l e R s m args below meth c Q N0 G ro z xs L t.2.2.1 z0 y0 μ9 (bpc t b) ls st μ) (h : x1 C J (.irem) as ls st μ K = some (r, μ9)) : Wk p l e R s m args below meth c Q N0 G ro z xs L t.2.2.1 z0 y0 μ9 pc ls st μ := by
  obtain ⟨hx, hb, hml, hown, hts, hmn, wf, hfr, hlo, hce, hsl⟩ := cx
  have ok2 : (decide (decode t.2.1 pc = .ok (.irem, len)) && Nat.beq len 1) = true := ok
  obtain ⟨hd, ok3⟩ := and2 ok2
  have hd := of_decide_eq_true hd
  obtain rfl : len = 1 := Nat.eq_of_beq_eq_true ok3
  obtain ⟨y, st, rfl, h1⟩ := ppI_inv h
  obtain ⟨x, st, rfl, h2⟩ := ppI_inv h1
  obtain ⟨hy, h3⟩ := gd_inv h2
  obtain ⟨hm, hk⟩ := hK _ _ _ h3
  refine ⟨hm, fun H locs Ls hR hS hL g1 g2 => ?_⟩
  exact lv_irem hx hb hd (by simpa using hy) (hk H locs Ls hR hS hL g1 g2)
theorem s_ldiv  (cx : Cx p R s m args meth c N0 G ro z xs L t d z0 y0 μ9) (ok : okI t (pc, .ldiv, len, as, ws) = true) (hK : ∀ ls st μ, K ls st μ = some (r, μ9) → Wk p l e R s m args below meth c Q N0 G ro z xs L t.2.2.1 z0 y0 μ9 (pc + len) ls st μ) (hJ : ∀ b ls st μ, J b ls st μ = some (r, μ9) → Wk p l e R s m args below meth c Q N0 G ro z xs L t.2.2.1 z0 y0 μ9 (bpc t b) ls st μ) (h : x1 C J (.ldiv) as ls st μ K = some (r, μ9)) : Wk p l e R s m args below meth c Q N0 G ro z xs L t.2.2.1 z0 y0 μ9 pc ls st μ := by
  obtain ⟨hx, hb, hml, hown, hts, hmn, wf, hfr, hlo, hce, hsl⟩ := cx
  have ok2 : (decide (decode t.2.1 pc = .ok (.ldiv, len)) && Nat.beq len 1) = true := ok
  obtain ⟨hd, ok3⟩ := and2 ok2
  have hd := of_decide_eq_true hd
  obtain rfl : len = 1 := Nat.eq_of_beq_eq_true ok3
  obtain ⟨y, st, rfl, h1⟩ := ppL_inv h
  obtain ⟨x, st, rfl, h2⟩ := ppL_inv h1
  obtain ⟨hy, h3⟩ := gd_inv h2
  obtain ⟨hm, hk⟩ := hK _ _ _ h3
  refine ⟨hm, fun H locs Ls hR hS hL g1 g2 => ?_⟩
  exact lv_ldiv hx hb hd (by simpa using hy) (hk H locs Ls hR hS hL g1 g2)
theorem s_lrem  (cx : Cx p R s m args meth c N0 G ro z xs L t d z0 y0 μ9) (ok : okI t (pc, .lrem, len, as, ws) = true) (hK : ∀ ls st μ, K ls st μ = some (r, μ9) → Wk p l e R s m args below meth c Q N0 G ro z xs L t.2.2.1 z0 y0 μ9 (pc + len) ls st μ) (hJ : ∀ b ls st μ, J b ls st μ = some (r, μ9) → Wk p l e R s m args below meth c Q N0 G ro z xs L t.2.2.1 z0 y0 μ9 (bpc t b) ls st μ) (h : x1 C J (.lrem) as ls st μ K = some (r, μ9)) : Wk p l e R s m args below meth c Q N0 G ro z xs L t.2.2.1 z0 y0 μ9 pc ls st μ := by
  obtain ⟨hx, hb, hml, hown, hts, hmn, wf, hfr, hlo, hce, hsl⟩ := cx
  have ok2 : (decide (decode t.2.1 pc = .ok (.lrem, len)) && Nat.beq len 1) = true := ok
  obtain ⟨hd, ok3⟩ := and2 ok2
  have hd := of_decide_eq_true hd
  obtain rfl : len = 1 := Nat.eq_of_beq_eq_true ok3
  obtain ⟨y, st, rfl, h1⟩ := ppL_inv h
  obtain ⟨x, st, rfl, h2⟩ := ppL_inv h1
  obtain ⟨hy, h3⟩ := gd_inv h2
  obtain ⟨hm, hk⟩ := hK _ _ _ h3
  refine ⟨hm, fun H locs Ls hR hS hL g1 g2 => ?_⟩
  exact lv_lrem hx hb hd (by simpa using hy) (hk H locs Ls hR hS hL g1 g2)
theorem s_ineg  (cx : Cx p R s m args meth c N0 G ro z xs L t d z0 y0 μ9) (ok : okI t (pc, .ineg, len, as, ws) = true) (hK : ∀ ls st μ, K ls st μ = some (r, μ9) → Wk p l e R s m args below meth c Q N0 G ro z xs L t.2.2.1 z0 y0 μ9 (pc + len) ls st μ) (hJ : ∀ b ls st μ, J b ls st μ = some (r, μ9) → Wk p l e R s m args below meth c Q N0 G ro z xs L t.2.2.1 z0 y0 μ9 (bpc t b) ls st μ) (h : x1 C J (.ineg) as ls st μ K = some (r, μ9)) : Wk p l e R s m args below meth c Q N0 G ro z xs L t.2.2.1 z0 y0 μ9 pc ls st μ := by
  obtain ⟨hx, hb, hml, hown, hts, hmn, wf, hfr, hlo, hce, hsl⟩ := cx
  have ok2 : (decide (decode t.2.1 pc = .ok (.ineg, len)) && Nat.beq len 1) = true := ok
  obtain ⟨hd, ok3⟩ := and2 ok2
  have hd := of_decide_eq_true hd
  obtain rfl : len = 1 := Nat.eq_of_beq_eq_true ok3
  obtain ⟨x, st, rfl, h1⟩ := ppI_inv h
  obtain ⟨hm, hk⟩ := hK _ _ _ h1
  refine ⟨hm, fun H locs Ls hR hS hL g1 g2 => ?_⟩
  exact lv_ineg hx hb hd (hk H locs Ls hR hS hL g1 g2)
theorem s_i2l  (cx : Cx p R s m args meth c N0 G ro z xs L t d z0 y0 μ9) (ok : okI t (pc, .i2l, len, as, ws) = true) (hK : ∀ ls st μ, K ls st μ = some (r, μ9) → Wk p l e R s m args below meth c Q N0 G ro z xs L t.2.2.1 z0 y0 μ9 (pc + len) ls st μ) (hJ : ∀ b ls st μ, J b ls st μ = some (r, μ9) → Wk p l e R s m args below meth c Q N0 G ro z xs L t.2.2.1 z0 y0 μ9 (bpc t b) ls st μ) (h : x1 C J (.i2l) as ls st μ K = some (r, μ9)) : Wk p l e R s m args below meth c Q N0 G ro z xs L t.2.2.1 z0 y0 μ9 pc ls st μ := by
  obtain ⟨hx, hb, hml, hown, hts, hmn, wf, hfr, hlo, hce, hsl⟩ := cx
  have ok2 : (decide (decode t.2.1 pc = .ok (.i2l, len)) && Nat.beq len 1) = true := ok
  obtain ⟨hd, ok3⟩ := and2 ok2
  have hd := of_decide_eq_true hd
  obtain rfl : len = 1 := Nat.eq_of_beq_eq_true ok3
  obtain ⟨x, st, rfl, h1⟩ := ppI_inv h
  obtain ⟨hm, hk⟩ := hK _ _ _ h1
  refine ⟨hm, fun H locs Ls hR hS hL g1 g2 => ?_⟩
  exact lv_i2l hx hb hd rfl (hk H locs Ls hR hS hL g1 g2)
theorem s_i2b  (cx : Cx p R s m args meth c N0 G ro z xs L t d z0 y0 μ9) (ok : okI t (pc, .i2b, len, as, ws) = true) (hK : ∀ ls st μ, K ls st μ = some (r, μ9) → Wk p l e R s m args below meth c Q N0 G ro z xs L t.2.2.1 z0 y0 μ9 (pc + len) ls st μ) (hJ : ∀ b ls st μ, J b ls st μ = some (r, μ9) → Wk p l e R s m args below meth c Q N0 G ro z xs L t.2.2.1 z0 y0 μ9 (bpc t b) ls st μ) (h : x1 C J (.i2b) as ls st μ K = some (r, μ9)) : Wk p l e R s m args below meth c Q N0 G ro z xs L t.2.2.1 z0 y0 μ9 pc ls st μ := by
  obtain ⟨hx, hb, hml, hown, hts, hmn, wf, hfr, hlo, hce, hsl⟩ := cx
  have ok2 : (decide (decode t.2.1 pc = .ok (.i2b, len)) && Nat.beq len 1) = true := ok
  obtain ⟨hd, ok3⟩ := and2 ok2
  have hd := of_decide_eq_true hd
  obtain rfl : len = 1 := Nat.eq_of_beq_eq_true ok3
  obtain ⟨x, st, rfl, h1⟩ := ppI_inv h
  obtain ⟨hm, hk⟩ := hK _ _ _ h1
  refine ⟨hm, fun H locs Ls hR hS hL g1 g2 => ?_⟩
  exact lv_i2b hx hb hd rfl (hk H locs Ls hR hS hL g1 g2)
theorem s_i2c  (cx : Cx p R s m args meth c N0 G ro z xs L t d z0 y0 μ9) (ok : okI t (pc, .i2c, len, as, ws) = true) (hK : ∀ ls st μ, K ls st μ = some (r, μ9) → Wk p l e R s m args below meth c Q N0 G ro z xs L t.2.2.1 z0 y0 μ9 (pc + len) ls st μ) (hJ : ∀ b ls st μ, J b ls st μ = some (r, μ9) → Wk p l e R s m args below meth c Q N0 G ro z xs L t.2.2.1 z0 y0 μ9 (bpc t b) ls st μ) (h : x1 C J (.i2c) as ls st μ K = some (r, μ9)) : Wk p l e R s m args below meth c Q N0 G ro z xs L t.2.2.1 z0 y0 μ9 pc ls st μ := by
  obtain ⟨hx, hb, hml, hown, hts, hmn, wf, hfr, hlo, hce, hsl⟩ := cx
  have ok2 : (decide (decode t.2.1 pc = .ok (.i2c, len)) && Nat.beq len 1) = true := ok
  obtain ⟨hd, ok3⟩ := and2 ok2
  have hd := of_decide_eq_true hd
  obtain rfl : len = 1 := Nat.eq_of_beq_eq_true ok3
  obtain ⟨x, st, rfl, h1⟩ := ppI_inv h
  obtain ⟨hm, hk⟩ := hK _ _ _ h1
  refine ⟨hm, fun H locs Ls hR hS hL g1 g2 => ?_⟩
  exact lv_i2c hx hb hd rfl (hk H locs Ls hR hS hL g1 g2)
theorem s_lneg  (cx : Cx p R s m args meth c N0 G ro z xs L t d z0 y0 μ9) (ok : okI t (pc, .lneg, len, as, ws) = true) (hK : ∀ ls st μ, K ls st μ = some (r, μ9) → Wk p l e R s m args below meth c Q N0 G ro z xs L t.2.2.1 z0 y0 μ9 (pc + len) ls st μ) (hJ : ∀ b ls st μ, J b ls st μ = some (r, μ9) → Wk p l e R s m args below meth c Q N0 G ro z xs L t.2.2.1 z0 y0 μ9 (bpc t b) ls st μ) (h : x1 C J (.lneg) as ls st μ K = some (r, μ9)) : Wk p l e R s m args below meth c Q N0 G ro z xs L t.2.2.1 z0 y0 μ9 pc ls st μ := by
  obtain ⟨hx, hb, hml, hown, hts, hmn, wf, hfr, hlo, hce, hsl⟩ := cx
  have ok2 : (decide (decode t.2.1 pc = .ok (.lneg, len)) && Nat.beq len 1) = true := ok
  obtain ⟨hd, ok3⟩ := and2 ok2
  have hd := of_decide_eq_true hd
  obtain rfl : len = 1 := Nat.eq_of_beq_eq_true ok3
  obtain ⟨x, st, rfl, h1⟩ := ppL_inv h
  obtain ⟨hm, hk⟩ := hK _ _ _ h1
  refine ⟨hm, fun H locs Ls hR hS hL g1 g2 => ?_⟩
  exact lv_lneg hx hb hd (hk H locs Ls hR hS hL g1 g2)
theorem s_lshl  (cx : Cx p R s m args meth c N0 G ro z xs L t d z0 y0 μ9) (ok : okI t (pc, .lshl, len, as, ws) = true) (hK : ∀ ls st μ, K ls st μ = some (r, μ9) → Wk p l e R s m args below meth c Q N0 G ro z xs L t.2.2.1 z0 y0 μ9 (pc + len) ls st μ) (hJ : ∀ b ls st μ, J b ls st μ = some (r, μ9) → Wk p l e R s m args below meth c Q N0 G ro z xs L t.2.2.1 z0 y0 μ9 (bpc t b) ls st μ) (h : x1 C J (.lshl) as ls st μ K = some (r, μ9)) : Wk p l e R s m args below meth c Q N0 G ro z xs L t.2.2.1 z0 y0 μ9 pc ls st μ := by
  obtain ⟨hx, hb, hml, hown, hts, hmn, wf, hfr, hlo, hce, hsl⟩ := cx
  have ok2 : (decide (decode t.2.1 pc = .ok (.lshl, len)) && Nat.beq len 1) = true := ok
  obtain ⟨hd, ok3⟩ := and2 ok2
  have hd := of_decide_eq_true hd
  obtain rfl : len = 1 := Nat.eq_of_beq_eq_true ok3
  obtain ⟨y, st, rfl, h1⟩ := ppI_inv h
  obtain ⟨x, st, rfl, h2⟩ := ppL_inv h1
  obtain ⟨hm, hk⟩ := hK _ _ _ h2
  refine ⟨hm, fun H locs Ls hR hS hL g1 g2 => ?_⟩
  exact lv_lshl hx hb hd rfl (hk H locs Ls hR hS hL g1 g2)
theorem s_lshr  (cx : Cx p R s m args meth c N0 G ro z xs L t d z0 y0 μ9) (ok : okI t (pc, .lshr, len, as, ws) = true) (hK : ∀ ls st μ, K ls st μ = some (r, μ9) → Wk p l e R s m args below meth c Q N0 G ro z xs L t.2.2.1 z0 y0 μ9 (pc + len) ls st μ) (hJ : ∀ b ls st μ, J b ls st μ = some (r, μ9) → Wk p l e R s m args below meth c Q N0 G ro z xs L t.2.2.1 z0 y0 μ9 (bpc t b) ls st μ) (h : x1 C J (.lshr) as ls st μ K = some (r, μ9)) : Wk p l e R s m args below meth c Q N0 G ro z xs L t.2.2.1 z0 y0 μ9 pc ls st μ := by
  obtain ⟨hx, hb, hml, hown, hts, hmn, wf, hfr, hlo, hce, hsl⟩ := cx
  have ok2 : (decide (decode t.2.1 pc = .ok (.lshr, len)) && Nat.beq len 1) = true := ok
  obtain ⟨hd, ok3⟩ := and2 ok2
  have hd := of_decide_eq_true hd
  obtain rfl : len = 1 := Nat.eq_of_beq_eq_true ok3
  obtain ⟨y, st, rfl, h1⟩ := ppI_inv h
  obtain ⟨x, st, rfl, h2⟩ := ppL_inv h1
  obtain ⟨hm, hk⟩ := hK _ _ _ h2
  refine ⟨hm, fun H locs Ls hR hS hL g1 g2 => ?_⟩
  exact lv_lshr hx hb hd rfl (hk H locs Ls hR hS hL g1 g2)
theorem s_lcmp  (cx : Cx p R s m args meth c N0 G ro z xs L t d z0 y0 μ9) (ok : okI t (pc, .lcmp, len, as, ws) = true) (hK : ∀ ls st μ, K ls st μ = some (r, μ9) → Wk p l e R s m args below meth c Q N0 G ro z xs L t.2.2.1 z0 y0 μ9 (pc + len) ls st μ) (hJ : ∀ b ls st μ, J b ls st μ = some (r, μ9) → Wk p l e R s m args below meth c Q N0 G ro z xs L t.2.2.1 z0 y0 μ9 (bpc t b) ls st μ) (h : x1 C J (.lcmp) as ls st μ K = some (r, μ9)) : Wk p l e R s m args below meth c Q N0 G ro z xs L t.2.2.1 z0 y0 μ9 pc ls st μ := by
  obtain ⟨hx, hb, hml, hown, hts, hmn, wf, hfr, hlo, hce, hsl⟩ := cx
  have ok2 : (decide (decode t.2.1 pc = .ok (.lcmp, len)) && Nat.beq len 1) = true := ok
  obtain ⟨hd, ok3⟩ := and2 ok2
  have hd := of_decide_eq_true hd
  obtain rfl : len = 1 := Nat.eq_of_beq_eq_true ok3
  obtain ⟨y, st, rfl, h1⟩ := ppL_inv h
  obtain ⟨x, st, rfl, h2⟩ := ppL_inv h1
  obtain ⟨hm, hk⟩ := hK _ _ _ h2
  refine ⟨hm, fun H locs Ls hR hS hL g1 g2 => ?_⟩
  exact W.lcmp hx hb hd (hk H locs Ls hR hS hL g1 g2)
theorem s_dup  (cx : Cx p R s m args meth c N0 G ro z xs L t d z0 y0 μ9) (ok : okI t (pc, .dup, len, as, ws) = true) (hK : ∀ ls st μ, K ls st μ = some (r, μ9) → Wk p l e R s m args below meth c Q N0 G ro z xs L t.2.2.1 z0 y0 μ9 (pc + len) ls st μ) (hJ : ∀ b ls st μ, J b ls st μ = some (r, μ9) → Wk p l e R s m args below meth c Q N0 G ro z xs L t.2.2.1 z0 y0 μ9 (bpc t b) ls st μ) (h : x1 C J (.dup) as ls st μ K = some (r, μ9)) : Wk p l e R s m args below meth c Q N0 G ro z xs L t.2.2.1 z0 y0 μ9 pc ls st μ := by
  obtain ⟨hx, hb, hml, hown, hts, hmn, wf, hfr, hlo, hce, hsl⟩ := cx
  have ok2 : (decide (decode t.2.1 pc = .ok (.dup, len)) && Nat.beq len 1) = true := ok
  obtain ⟨hd, ok3⟩ := and2 ok2
  have hd := of_decide_eq_true hd
  obtain rfl : len = 1 := Nat.eq_of_beq_eq_true ok3
  obtain ⟨v, st, rfl, h1⟩ := p1_inv h
  obtain ⟨hc, h2⟩ := cat1_inv h1
  obtain ⟨hm, hk⟩ := hK _ _ _ h2
  refine ⟨hm, fun H locs Ls hR hS hL g1 g2 => ?_⟩
  exact lv_dup hx hb hd (by rcases hc with rfl | ⟨i, rfl⟩ | ⟨i, rfl⟩ <;> rfl) (hk H locs Ls hR hS hL g1 g2)
theorem s_pop  (cx : Cx p R s m args meth c N0 G ro z xs L t d z0 y0 μ9) (ok : okI t (pc, .pop, len, as, ws) = true) (hK : ∀ ls st μ, K ls st μ = some (r, μ9) → Wk p l e R s m args below meth c Q N0 G ro z xs L t.2.2.1 z0 y0 μ9 (pc + len) ls st μ) (hJ : ∀ b ls st μ, J b ls st μ = some (r, μ9) → Wk p l e R s m args below meth c Q N0 G ro z xs L t.2.2.1 z0 y0 μ9 (bpc t b) ls st μ) (h : x1 C J (.pop) as ls st μ K = some (r, μ9)) : Wk p l e R s m args below meth c Q N0 G ro z xs L t.2.2.1 z0 y0 μ9 pc ls st μ := by
  obtain ⟨hx, hb, hml, hown, hts, hmn, wf, hfr, hlo, hce, hsl⟩ := cx
  have ok2 : (decide (decode t.2.1 pc = .ok (.pop, len)) && Nat.beq len 1) = true := ok
  obtain ⟨hd, ok3⟩ := and2 ok2
  have hd := of_decide_eq_true hd
  obtain rfl : len = 1 := Nat.eq_of_beq_eq_true ok3
  obtain ⟨v, st, rfl, h1⟩ := p1_inv h
  obtain ⟨hc, h2⟩ := cat1_inv h1
  obtain ⟨hm, hk⟩ := hK _ _ _ h2
  refine ⟨hm, fun H locs Ls hR hS hL g1 g2 => ?_⟩
  exact lv_pop hx hb hd (by rcases hc with rfl | ⟨i, rfl⟩ | ⟨i, rfl⟩ <;> rfl) (hk H locs Ls hR hS hL g1 g2)
theorem s_dup2  (cx : Cx p R s m args meth c N0 G ro z xs L t d z0 y0 μ9) (ok : okI t (pc, .dup2, len, as, ws) = true) (hK : ∀ ls st μ, K ls st μ = some (r, μ9) → Wk p l e R s m args below meth c Q N0 G ro z xs L t.2.2.1 z0 y0 μ9 (pc + len) ls st μ) (hJ : ∀ b ls st μ, J b ls st μ = some (r, μ9) → Wk p l e R s m args below meth c Q N0 G ro z xs L t.2.2.1 z0 y0 μ9 (bpc t b) ls st μ) (h : x1 C J (.dup2) as ls st μ K = some (r, μ9)) : Wk p l e R s m args below meth c Q N0 G ro z xs L t.2.2.1 z0 y0 μ9 pc ls st μ := by
  obtain ⟨hx, hb, hml, hown, hts, hmn, wf, hfr, hlo, hce, hsl⟩ := cx
  have ok2 : (decide (decode t.2.1 pc = .ok (.dup2, len)) && Nat.beq len 1) = true := ok
  obtain ⟨hd, ok3⟩ := and2 ok2
  have hd := of_decide_eq_true hd
  obtain rfl : len = 1 := Nat.eq_of_beq_eq_true ok3
  obtain ⟨v, st, rfl, h1⟩ := p1_inv h
  cases v with
  | long x =>
    obtain ⟨hm, hk⟩ := hK _ _ _ h1
    exact ⟨hm, fun H locs Ls hR hS hL g1 g2 => lv_dup2_2 hx hb hd rfl (hk H locs Ls hR hS hL g1 g2)⟩
  | int x =>
    obtain ⟨hc1, h2⟩ := cat1_inv h1
    obtain ⟨u, st, rfl, h3⟩ := p1_inv h2
    obtain ⟨hc, h4⟩ := cat1_inv h3
    obtain ⟨hm, hk⟩ := hK _ _ _ h4
    exact ⟨hm, fun H locs Ls hR hS hL g1 g2 => lv_dup2_11 hx hb hd rfl (by rcases hc with rfl | ⟨i, rfl⟩ | ⟨i, rfl⟩ <;> rfl) (hk H locs Ls hR hS hL g1 g2)⟩
  | null =>
    obtain ⟨hc1, h5⟩ := cat1_inv h1
    obtain ⟨u, st, rfl, h6⟩ := p1_inv h5
    obtain ⟨hc, h7⟩ := cat1_inv h6
    obtain ⟨hm, hk⟩ := hK _ _ _ h7
    exact ⟨hm, fun H locs Ls hR hS hL g1 g2 => lv_dup2_11 hx hb hd rfl (by rcases hc with rfl | ⟨i, rfl⟩ | ⟨i, rfl⟩ <;> rfl) (hk H locs Ls hR hS hL g1 g2)⟩
  | ref x =>
    obtain ⟨hc1, h8⟩ := cat1_inv h1
    obtain ⟨u, st, rfl, h9⟩ := p1_inv h8
    obtain ⟨hc, h10⟩ := cat1_inv h9
    obtain ⟨hm, hk⟩ := hK _ _ _ h10
    exact ⟨hm, fun H locs Ls hR hS hL g1 g2 => lv_dup2_11 hx hb hd rfl (by rcases hc with rfl | ⟨i, rfl⟩ | ⟨i, rfl⟩ <;> rfl) (hk H locs Ls hR hS hL g1 g2)⟩
  | _ => exact absurd (cat1_inv h1).1 (by rintro (q | ⟨i, q⟩ | ⟨i, q⟩) <;> cases q)
theorem s_if_eq {off : Int} (cx : Cx p R s m args meth c N0 G ro z xs L t d z0 y0 μ9) (ok : okI t (pc, .ifCond .eq off, len, as, ws) = true) (hK : ∀ ls st μ, K ls st μ = some (r, μ9) → Wk p l e R s m args below meth c Q N0 G ro z xs L t.2.2.1 z0 y0 μ9 (pc + len) ls st μ) (hJ : ∀ b ls st μ, J b ls st μ = some (r, μ9) → Wk p l e R s m args below meth c Q N0 G ro z xs L t.2.2.1 z0 y0 μ9 (bpc t b) ls st μ) (h : x1 C J (.ifCond .eq off) as ls st μ K = some (r, μ9)) : Wk p l e R s m args below meth c Q N0 G ro z xs L t.2.2.1 z0 y0 μ9 pc ls st μ := by
  obtain ⟨hx, hb, hml, hown, hts, hmn, wf, hfr, hlo, hce, hsl⟩ := cx
  obtain ⟨bt, bf, rfl⟩ : ∃ bt bf, as = [bt, bf] := by
    rcases as with _ | ⟨a1, _ | ⟨a2, _ | ⟨a3, as⟩⟩⟩ <;> first | exact ⟨_, _, rfl⟩ | cases h
  have ok2 : (decide (decode t.2.1 pc = .ok (.ifCond .eq off, len)) && (Nat.beq len 3 && decide ((pc : Int) + off = (bpc t bt : Int)) && Nat.beq (pc + 3) (bpc t bf))) = true := ok
  obtain ⟨hd, ok3⟩ := and2 ok2
  have hd := of_decide_eq_true hd
  obtain ⟨ok4, ok5⟩ := and2 ok3
  obtain ⟨ok6, ok7⟩ := and2 ok4
  obtain rfl : len = 3 := Nat.eq_of_beq_eq_true ok6
  have ht := of_decide_eq_true ok7
  have hf := Nat.eq_of_beq_eq_true ok5
  obtain ⟨x, st, rfl, h1⟩ := ppI_inv h
  by_cases hq : x = 0
  · have h : (if x = 0 then J bt ls st μ else J bf ls st μ) = some (r, μ9) := h1
    rw [if_pos hq] at h
    obtain ⟨hm, hk⟩ := hJ _ _ _ _ h
    refine ⟨hm, fun H locs Ls hR hS hL g1 g2 => ?_⟩
    exact lv_if_eq hx hb hd ht (fun _ => hk H locs Ls hR hS hL g1 g2) (fun q => absurd hq q)
  · have h : (if x = 0 then J bt ls st μ else J bf ls st μ) = some (r, μ9) := h1
    rw [if_neg hq] at h
    obtain ⟨hm, hk⟩ := hJ _ _ _ _ h
    refine ⟨hm, fun H locs Ls hR hS hL g1 g2 => ?_⟩
    rw [← hf] at hk
    exact lv_if_eq hx hb hd ht (fun q => absurd q hq) (fun _ => hk H locs Ls hR hS hL g1 g2)
theorem s_if_ne {off : Int} (cx : Cx p R s m args meth c N0 G ro z xs L t d z0 y0 μ9) (ok : okI t (pc, .ifCond .ne off, len, as, ws) = true) (hK : ∀ ls st μ, K ls st μ = some (r, μ9) → Wk p l e R s m args below meth c Q N0 G ro z xs L t.2.2.1 z0 y0 μ9 (pc + len) ls st μ) (hJ : ∀ b ls st μ, J b ls st μ = some (r, μ9) → Wk p l e R s m args below meth c Q N0 G ro z xs L t.2.2.1 z0 y0 μ9 (bpc t b) ls st μ) (h : x1 C J (.ifCond .ne off) as ls st μ K = some (r, μ9)) : Wk p l e R s m args below meth c Q N0 G ro z xs L t.2.2.1 z0 y0 μ9 pc ls st μ := by
  obtain ⟨hx, hb, hml, hown, hts, hmn, wf, hfr, hlo, hce, hsl⟩ := cx
  obtain ⟨bt, bf, rfl⟩ : ∃ bt bf, as = [bt, bf] := by
    rcases as with _ | ⟨a1, _ | ⟨a2, _ | ⟨a3, as⟩⟩⟩ <;> first | exact ⟨_, _, rfl⟩ | cases h
  have ok2 : (decide (decode t.2.1 pc = .ok (.ifCond .ne off, len)) && (Nat.beq len 3 && decide ((pc : Int) + off = (bpc t bt : Int)) && Nat.beq (pc + 3) (bpc t bf))) = true := ok
  obtain ⟨hd, ok3⟩ := and2 ok2
  have hd := of_decide_eq_true hd
  obtain ⟨ok4, ok5⟩ := and2 ok3
  obtain ⟨ok6, ok7⟩ := and2 ok4
  obtain rfl : len = 3 := Nat.eq_of_beq_eq_true ok6
  have ht := of_decide_eq_true ok7
  have hf := Nat.eq_of_beq_eq_true ok5
  obtain ⟨x, st, rfl, h1⟩ := ppI_inv h
  by_cases hq : x = 0
  · have h : (if x = 0 then J bf ls st μ else J bt ls st μ) = some (r, μ9) := h1
    rw [if_pos hq] at h
    obtain ⟨hm, hk⟩ := hJ _ _ _ _ h
    refine ⟨hm, fun H locs Ls hR hS hL g1 g2 => ?_⟩
    rw [← hf] at hk
    exact lv_if_ne hx hb hd ht (fun q => absurd hq q) (fun _ => hk H locs Ls hR hS hL g1 g2)
  · have h : (if x = 0 then J bf ls st μ else J bt ls st μ) = some (r, μ9) := h1
    rw [if_neg hq] at h
    obtain ⟨hm, hk⟩ := hJ _ _ _ _ h
    refine ⟨hm, fun H locs Ls hR hS hL g1 g2 => ?_⟩
    exact lv_if_ne hx hb hd ht (fun _ => hk H locs Ls hR hS hL g1 g2) (fun q => absurd q hq)
theorem s_if_lt {off : Int} (cx : Cx p R s m args meth c N0 G ro z xs L t d z0 y0 μ9) (ok : okI t (pc, .ifCond .lt off, len, as, ws) = true) (hK : ∀ ls st μ, K ls st μ = some (r, μ9) → Wk p l e R s m args below meth c Q N0 G ro z xs L t.2.2.1 z0 y0 μ9 (pc + len) ls st μ) (hJ : ∀ b ls st μ, J b ls st μ = some (r, μ9) → Wk p l e R s m args below meth c Q N0 G ro z xs L t.2.2.1 z0 y0 μ9 (bpc t b) ls st μ) (h : x1 C J (.ifCond .lt off) as ls st μ K = some (r, μ9)) : Wk p l e R s m args below meth c Q N0 G ro z xs L t.2.2.1 z0 y0 μ9 pc ls st μ := by
  obtain ⟨hx, hb, hml, hown, hts, hmn, wf, hfr, hlo, hce, hsl⟩ := cx
  obtain ⟨bt, bf, rfl⟩ : ∃ bt bf, as = [bt, bf] := by
    rcases as with _ | ⟨a1, _ | ⟨a2, _ | ⟨a3, as⟩⟩⟩ <;> first | exact ⟨_, _, rfl⟩ | cases h
  have ok2 : (decide (decode t.2.1 pc = .ok (.ifCond .lt off, len)) && (Nat.beq len 3 && decide ((pc : Int) + off = (bpc t bt : Int)) && Nat.beq (pc + 3) (bpc t bf))) = true := ok
  obtain ⟨hd, ok3⟩ := and2 ok2
  have hd := of_decide_eq_true hd
  obtain ⟨ok4, ok5⟩ := and2 ok3
  obtain ⟨ok6, ok7⟩ := and2 ok4
  obtain rfl : len = 3 := Nat.eq_of_beq_eq_true ok6
  have ht := of_decide_eq_true ok7
  have hf := Nat.eq_of_beq_eq_true ok5
  obtain ⟨x, st, rfl, h1⟩ := ppI_inv h
  by_cases hq : x < 0
  · have h : (if x < 0 then J bt ls st μ else J bf ls st μ) = some (r, μ9) := h1
    rw [if_pos hq] at h
    obtain ⟨hm, hk⟩ := hJ _ _ _ _ h
    refine ⟨hm, fun H locs Ls hR hS hL g1 g2 => ?_⟩
    exact lv_if_lt hx hb hd ht (fun _ => hk H locs Ls hR hS hL g1 g2) (fun q => absurd hq q)
  · have h : (if x < 0 then J bt ls st μ else J bf ls st μ) = some (r, μ9) := h1
    rw [if_neg hq] at h
    obtain ⟨hm, hk⟩ := hJ _ _ _ _ h
    refine ⟨hm, fun H locs Ls hR hS hL g1 g2 => ?_⟩
    rw [← hf] at hk
    exact lv_if_lt hx hb hd ht (fun q => absurd q hq) (fun _ => hk H locs Ls hR hS hL g1 g2)
theorem s_if_ge {off : Int} (cx : Cx p R s m args meth c N0 G ro z xs L t d z0 y0 μ9) (ok : okI t (pc, .ifCond .ge off, len, as, ws) = true) (hK : ∀ ls st μ, K ls st μ = some (r, μ9) → Wk p l e R s m args below meth c Q N0 G ro z xs L t.2.2.1 z0 y0 μ9 (pc + len) ls st μ) (hJ : ∀ b ls st μ, J b ls st μ = some (r, μ9) → Wk p l e R s m args below meth c Q N0 G ro z xs L t.2.2.1 z0 y0 μ9 (bpc t b) ls st μ) (h : x1 C J (.ifCond .ge off) as ls st μ K = some (r, μ9)) : Wk p l e R s m args below meth c Q N0 G ro z xs L t.2.2.1 z0 y0 μ9 pc ls st μ := by
  obtain ⟨hx, hb, hml, hown, hts, hmn, wf, hfr, hlo, hce, hsl⟩ := cx
  obtain ⟨bt, bf, rfl⟩ : ∃ bt bf, as = [bt, bf] := by
    rcases as with _ | ⟨a1, _ | ⟨a2, _ | ⟨a3, as⟩⟩⟩ <;> first | exact ⟨_, _, rfl⟩ | cases h
  have ok2 : (decide (decode t.2.1 pc = .ok (.ifCond .ge off, len)) && (Nat.beq len 3 && decide ((pc : Int) + off = (bpc t bt : Int)) && Nat.beq (pc + 3) (bpc t bf))) = true := ok
  obtain ⟨hd, ok3⟩ := and2 ok2
  have hd := of_decide_eq_true hd
  obtain ⟨ok4, ok5⟩ := and2 ok3
  obtain ⟨ok6, ok7⟩ := and2 ok4
  obtain rfl : len = 3 := Nat.eq_of_beq_eq_true ok6
  have ht := of_decide_eq_true ok7
  have hf := Nat.eq_of_beq_eq_true ok5
  obtain ⟨x, st, rfl, h1⟩ := ppI_inv h
  by_cases hq : 0 ≤ x
  · have h : (if 0 ≤ x then J bt ls st μ else J bf ls st μ) = some (r, μ9) := h1
    rw [if_pos hq] at h
    obtain ⟨hm, hk⟩ := hJ _ _ _ _ h
    refine ⟨hm, fun H locs Ls hR hS hL g1 g2 => ?_⟩
    exact lv_if_ge hx hb hd ht (fun _ => hk H locs Ls hR hS hL g1 g2) (fun q => absurd hq q)
  · have h : (if 0 ≤ x then J bt ls st μ else J bf ls st μ) = some (r, μ9) := h1
    rw [if_neg hq] at h
    obtain ⟨hm, hk⟩ := hJ _ _ _ _ h
    refine ⟨hm, fun H locs Ls hR hS hL g1 g2 => ?_⟩
    rw [← hf] at hk
    exact lv_if_ge hx hb hd ht (fun q => absurd q hq) (fun _ => hk H locs Ls hR hS hL g1 g2)
theorem s_if_gt {off : Int} (cx : Cx p R s m args meth c N0 G ro z xs L t d z0 y0 μ9) (ok : okI t (pc, .ifCond .gt off, len, as, ws) = true) (hK : ∀ ls st μ, K ls st μ = some (r, μ9) → Wk p l e R s m args below meth c Q N0 G ro z xs L t.2.2.1 z0 y0 μ9 (pc + len) ls st μ) (hJ : ∀ b ls st μ, J b ls st μ = some (r, μ9) → Wk p l e R s m args below meth c Q N0 G ro z xs L t.2.2.1 z0 y0 μ9 (bpc t b) ls st μ) (h : x1 C J (.ifCond .gt off) as ls st μ K = some (r, μ9)) : Wk p l e R s m args below meth c Q N0 G ro z xs L t.2.2.1 z0 y0 μ9 pc ls st μ := by
  obtain ⟨hx, hb, hml, hown, hts, hmn, wf, hfr, hlo, hce, hsl⟩ := cx
  obtain ⟨bt, bf, rfl⟩ : ∃ bt bf, as = [bt, bf] := by
    rcases as with _ | ⟨a1, _ | ⟨a2, _ | ⟨a3, as⟩⟩⟩ <;> first | exact ⟨_, _, rfl⟩ | cases h
  have ok2 : (decide (decode t.2.1 pc = .ok (.ifCond .gt off, len)) && (Nat.beq len 3 && decide ((pc : Int) + off = (bpc t bt : Int)) && Nat.beq (pc + 3) (bpc t bf))) = true := ok
  obtain ⟨hd, ok3⟩ := and2 ok2
  have hd := of_decide_eq_true hd
  obtain ⟨ok4, ok5⟩ := and2 ok3
  obtain ⟨ok6, ok7⟩ := and2 ok4
  obtain rfl : len = 3 := Nat.eq_of_beq_eq_true ok6
  have ht := of_decide_eq_true ok7
  have hf := Nat.eq_of_beq_eq_true ok5
  obtain ⟨x, st, rfl, h1⟩ := ppI_inv h
  by_cases hq : 0 < x
  · have h : (if 0 < x then J bt ls st μ else J bf ls st μ) = some (r, μ9) := h1
    rw [if_pos hq] at h
    obtain ⟨hm, hk⟩ := hJ _ _ _ _ h
    refine ⟨hm, fun H locs Ls hR hS hL g1 g2 => ?_⟩
    exact lv_if_gt hx hb hd ht (fun _ => hk H locs Ls hR hS hL g1 g2) (fun q => absurd hq q)
  · have h : (if 0 < x then J bt ls st μ else J bf ls st μ) = some (r, μ9) := h1
    rw [if_neg hq] at h
    obtain ⟨hm, hk⟩ := hJ _ _ _ _ h
    refine ⟨hm, fun H locs Ls hR hS hL g1 g2 => ?_⟩
    rw [← hf] at hk
    exact lv_if_gt hx hb hd ht (fun q => absurd q hq) (fun _ => hk H locs Ls hR hS hL g1 g2)
theorem s_if_le {off : Int} (cx : Cx p R s m args meth c N0 G ro z xs L t d z0 y0 μ9) (ok : okI t (pc, .ifCond .le off, len, as, ws) = true) (hK : ∀ ls st μ, K ls st μ = some (r, μ9) → Wk p l e R s m args below meth c Q N0 G ro z xs L t.2.2.1 z0 y0 μ9 (pc + len) ls st μ) (hJ : ∀ b ls st μ, J b ls st μ = some (r, μ9) → Wk p l e R s m args below meth c Q N0 G ro z xs L t.2.2.1 z0 y0 μ9 (bpc t b) ls st μ) (h : x1 C J (.ifCond .le off) as ls st μ K = some (r, μ9)) : Wk p l e R s m args below meth c Q N0 G ro z xs L t.2.2.1 z0 y0 μ9 pc ls st μ := by
  obtain ⟨hx, hb, hml, hown, hts, hmn, wf, hfr, hlo, hce, hsl⟩ := cx
  obtain ⟨bt, bf, rfl⟩ : ∃ bt bf, as = [bt, bf] := by
    rcases as with _ | ⟨a1, _ | ⟨a2, _ | ⟨a3, as⟩⟩⟩ <;> first | exact ⟨_, _, rfl⟩ | cases h
  have ok2 : (decide (decode t.2.1 pc = .ok (.ifCond .le off, len)) && (Nat.beq len 3 && decide ((pc : Int) + off = (bpc t bt : Int)) && Nat.beq (pc + 3) (bpc t bf))) = true := ok
  obtain ⟨hd, ok3⟩ := and2 ok2
  have hd := of_decide_eq_true hd
  obtain ⟨ok4, ok5⟩ := and2 ok3
  obtain ⟨ok6, ok7⟩ := and2 ok4
  obtain rfl : len = 3 := Nat.eq_of_beq_eq_true ok6
  have ht := of_decide_eq_true ok7
  have hf := Nat.eq_of_beq_eq_true ok5
  obtain ⟨x, st, rfl, h1⟩ := ppI_inv h
  by_cases hq : x ≤ 0
  · have h : (if x ≤ 0 then J bt ls st μ else J bf ls st μ) = some (r, μ9) := h1
    rw [if_pos hq] at h
    obtain ⟨hm, hk⟩ := hJ _ _ _ _ h
    refine ⟨hm, fun H locs Ls hR hS hL g1 g2 => ?_⟩
    exact lv_if_le hx hb hd ht (fun _ => hk H locs Ls hR hS hL g1 g2) (fun q => absurd hq q)
  · have h : (if x ≤ 0 then J bt ls st μ else J bf ls st μ) = some (r, μ9) := h1
    rw [if_neg hq] at h
    obtain ⟨hm, hk⟩ := hJ _ _ _ _ h
    refine ⟨hm, fun H locs Ls hR hS hL g1 g2 => ?_⟩
    rw [← hf] at hk
    exact lv_if_le hx hb hd ht (fun q => absurd q hq) (fun _ => hk H locs Ls hR hS hL g1 g2)
theorem s_icmp_eq {off : Int} (cx : Cx p R s m args meth c N0 G ro z xs L t d z0 y0 μ9) (ok : okI t (pc, .if_icmp .eq off, len, as, ws) = true) (hK : ∀ ls st μ, K ls st μ = some (r, μ9) → Wk p l e R s m args below meth c Q N0 G ro z xs L t.2.2.1 z0 y0 μ9 (pc + len) ls st μ) (hJ : ∀ b ls st μ, J b ls st μ = some (r, μ9) → Wk p l e R s m args below meth c Q N0 G ro z xs L t.2.2.1 z0 y0 μ9 (bpc t b) ls st μ) (h : x1 C J (.if_icmp .eq off) as ls st μ K = some (r, μ9)) : Wk p l e R s m args below meth c Q N0 G ro z xs L t.2.2.1 z0 y0 μ9 pc ls st μ := by
  obtain ⟨hx, hb, hml, hown, hts, hmn, wf, hfr, hlo, hce, hsl⟩ := cx
  obtain ⟨bt, bf, rfl⟩ : ∃ bt bf, as = [bt, bf] := by
    rcases as with _ | ⟨a1, _ | ⟨a2, _ | ⟨a3, as⟩⟩⟩ <;> first | exact ⟨_, _, rfl⟩ | cases h
  have ok2 : (decide (decode t.2.1 pc = .ok (.if_icmp .eq off, len)) && (Nat.beq len 3 && decide ((pc : Int) + off = (bpc t bt : Int)) && Nat.beq (pc + 3) (bpc t bf))) = true := ok
  obtain ⟨hd, ok3⟩ := and2 ok2
  have hd := of_decide_eq_true hd
  obtain ⟨ok4, ok5⟩ := and2 ok3
  obtain ⟨ok6, ok7⟩ := and2 ok4
  obtain rfl : len = 3 := Nat.eq_of_beq_eq_true ok6
  have ht := of_decide_eq_true ok7
  have hf := Nat.eq_of_beq_eq_true ok5
  obtain ⟨y, st, rfl, h1⟩ := ppI_inv h
  obtain ⟨x, st, rfl, h2⟩ := ppI_inv h1
  by_cases hq : x = y
  · have h : (if x = y then J bt ls st μ else J bf ls st μ) = some (r, μ9) := h2
    rw [if_pos hq] at h
    obtain ⟨hm, hk⟩ := hJ _ _ _ _ h
    refine ⟨hm, fun H locs Ls hR hS hL g1 g2 => ?_⟩
    exact lv_icmp_eq hx hb hd ht (fun _ => hk H locs Ls hR hS hL g1 g2) (fun q => absurd hq q)
  · have h : (if x = y then J bt ls st μ else J bf ls st μ) = some (r, μ9) := h2
    rw [if_neg hq] at h
    obtain ⟨hm, hk⟩ := hJ _ _ _ _ h
    refine ⟨hm, fun H locs Ls hR hS hL g1 g2 => ?_⟩
    rw [← hf] at hk
    exact lv_icmp_eq hx hb hd ht (fun q => absurd q hq) (fun _ => hk H locs Ls hR hS hL g1 g2)
theorem s_icmp_ne {off : Int} (cx : Cx p R s m args meth c N0 G ro z xs L t d z0 y0 μ9) (ok : okI t (pc, .if_icmp .ne off, len, as, ws) = true) (hK : ∀ ls st μ, K ls st μ = some (r, μ9) → Wk p l e R s m args below meth c Q N0 G ro z xs L t.2.2.1 z0 y0 μ9 (pc + len) ls st μ) (hJ : ∀ b ls st μ, J b ls st μ = some (r, μ9) → Wk p l e R s m args below meth c Q N0 G ro z xs L t.2.2.1 z0 y0 μ9 (bpc t b) ls st μ) (h : x1 C J (.if_icmp .ne off) as ls st μ K = some (r, μ9)) : Wk p l e R s m args below meth c Q N0 G ro z xs L t.2.2.1 z0 y0 μ9 pc ls st μ := by
  obtain ⟨hx, hb, hml, hown, hts, hmn, wf, hfr, hlo, hce, hsl⟩ := cx
  obtain ⟨bt, bf, rfl⟩ : ∃ bt bf, as = [bt, bf] := by
    rcases as with _ | ⟨a1, _ | ⟨a2, _ | ⟨a3, as⟩⟩⟩ <;> first | exact ⟨_, _, rfl⟩ | cases h
  have ok2 : (decide (decode t.2.1 pc = .ok (.if_icmp .ne off, len)) && (Nat.beq len 3 && decide ((pc : Int) + off = (bpc t bt : Int)) && Nat.beq (pc + 3) (bpc t bf))) = true := ok
  obtain ⟨hd, ok3⟩ := and2 ok2
  have hd := of_decide_eq_true hd
  obtain ⟨ok4, ok5⟩ := and2 ok3
  obtain ⟨ok6, ok7⟩ := and2 ok4
  obtain rfl : len = 3 := Nat.eq_of_beq_eq_true ok6
  have ht := of_decide_eq_true ok7
  have hf := Nat.eq_of_beq_eq_true ok5
  obtain ⟨y, st, rfl, h1⟩ := ppI_inv h
  obtain ⟨x, st, rfl, h2⟩ := ppI_inv h1
  by_cases hq : x = y
  · have h : (if x = y then J bf ls st μ else J bt ls st μ) = some (r, μ9) := h2
    rw [if_pos hq] at h
    obtain ⟨hm, hk⟩ := hJ _ _ _ _ h
    refine ⟨hm, fun H locs Ls hR hS hL g1 g2 => ?_⟩
    rw [← hf] at hk
    exact lv_icmp_ne hx hb hd ht (fun q => absurd hq q) (fun _ => hk H locs Ls hR hS hL g1 g2)
  · have h : (if x = y then J bf ls st μ else J bt ls st μ) = some (r, μ9) := h2
    rw [if_neg hq] at h
    obtain ⟨hm, hk⟩ := hJ _ _ _ _ h
    refine ⟨hm, fun H locs Ls hR hS hL g1 g2 => ?_⟩
    exact lv_icmp_ne hx hb hd ht (fun _ => hk H locs Ls hR hS hL g1 g2) (fun q => absurd q hq)
theorem s_icmp_lt {off : Int} (cx : Cx p R s m args meth c N0 G ro z xs L t d z0 y0 μ9) (ok : okI t (pc, .if_icmp .lt off, len, as, ws) = true) (hK : ∀ ls st μ, K ls st μ = some (r, μ9) → Wk p l e R s m args below meth c Q N0 G ro z xs L t.2.2.1 z0 y0 μ9 (pc + len) ls st μ) (hJ : ∀ b ls st μ, J b ls st μ = some (r, μ9) → Wk p l e R s m args below meth c Q N0 G ro z xs L t.2.2.1 z0 y0 μ9 (bpc t b) ls st μ) (h : x1 C J (.if_icmp .lt off) as ls st μ K = some (r, μ9)) : Wk p l e R s m args below meth c Q N0 G ro z xs L t.2.2.1 z0 y0 μ9 pc ls st μ := by
  obtain ⟨hx, hb, hml, hown, hts, hmn, wf, hfr, hlo, hce, hsl⟩ := cx
  obtain ⟨bt, bf, rfl⟩ : ∃ bt bf, as = [bt, bf] := by
    rcases as with _ | ⟨a1, _ | ⟨a2, _ | ⟨a3, as⟩⟩⟩ <;> first | exact ⟨_, _, rfl⟩ | cases h
  have ok2 : (decide (decode t.2.1 pc = .ok (.if_icmp .lt off, len)) && (Nat.beq len 3 && decide ((pc : Int) + off = (bpc t bt : Int)) && Nat.beq (pc + 3) (bpc t bf))) = true := ok
  obtain ⟨hd, ok3⟩ := and2 ok2
  have hd := of_decide_eq_true hd
  obtain ⟨ok4, ok5⟩ := and2 ok3
  obtain ⟨ok6, ok7⟩ := and2 ok4
  obtain rfl : len = 3 := Nat.eq_of_beq_eq_true ok6
  have ht := of_decide_eq_true ok7
  have hf := Nat.eq_of_beq_eq_true ok5
  obtain ⟨y, st, rfl, h1⟩ := ppI_inv h
  obtain ⟨x, st, rfl, h2⟩ := ppI_inv h1
  by_cases hq : x < y
  · have h : (if x < y then J bt ls st μ else J bf ls st μ) = some (r, μ9) := h2
    rw [if_pos hq] at h
    obtain ⟨hm, hk⟩ := hJ _ _ _ _ h
    refine ⟨hm, fun H locs Ls hR hS hL g1 g2 => ?_⟩
    exact lv_icmp_lt hx hb hd ht (fun _ => hk H locs Ls hR hS hL g1 g2) (fun q => absurd hq q)
  · have h : (if x < y then J bt ls st μ else J bf ls st μ) = some (r, μ9) := h2
    rw [if_neg hq] at h
    obtain ⟨hm, hk⟩ := hJ _ _ _ _ h
    refine ⟨hm, fun H locs Ls hR hS hL g1 g2 => ?_⟩
    rw [← hf] at hk
    exact lv_icmp_lt hx hb hd ht (fun q => absurd q hq) (fun _ => hk H locs Ls hR hS hL g1 g2)
theorem s_icmp_ge {off : Int} (cx : Cx p R s m args meth c N0 G ro z xs L t d z0 y0 μ9) (ok : okI t (pc, .if_icmp .ge off, len, as, ws) = true) (hK : ∀ ls st μ, K ls st μ = some (r, μ9) → Wk p l e R s m args below meth c Q N0 G ro z xs L t.2.2.1 z0 y0 μ9 (pc + len) ls st μ) (hJ : ∀ b ls st μ, J b ls st μ = some (r, μ9) → Wk p l e R s m args below meth c Q N0 G ro z xs L t.2.2.1 z0 y0 μ9 (bpc t b) ls st μ) (h : x1 C J (.if_icmp .ge off) as ls st μ K = some (r, μ9)) : Wk p l e R s m args below meth c Q N0 G ro z xs L t.2.2.1 z0 y0 μ9 pc ls st μ := by
  obtain ⟨hx, hb, hml, hown, hts, hmn, wf, hfr, hlo, hce, hsl⟩ := cx
  obtain ⟨bt, bf, rfl⟩ : ∃ bt bf, as = [bt, bf] := by
    rcases as with _ | ⟨a1, _ | ⟨a2, _ | ⟨a3, as⟩⟩⟩ <;> first | exact ⟨_, _, rfl⟩ | cases h
  have ok2 : (decide (decode t.2.1 pc = .ok (.if_icmp .ge off, len)) && (Nat.beq len 3 && decide ((pc : Int) + off = (bpc t bt : Int)) && Nat.beq (pc + 3) (bpc t bf))) = true := ok
  obtain ⟨hd, ok3⟩ := and2 ok2
  have hd := of_decide_eq_true hd
  obtain ⟨ok4, ok5⟩ := and2 ok3
  obtain ⟨ok6, ok7⟩ := and2 ok4
  obtain rfl : len = 3 := Nat.eq_of_beq_eq_true ok6
  have ht := of_decide_eq_true ok7
  have hf := Nat.eq_of_beq_eq_true ok5
  obtain ⟨y, st, rfl, h1⟩ := ppI_inv h
  obtain ⟨x, st, rfl, h2⟩ := ppI_inv h1
  by_cases hq : y ≤ x
  · have h : (if y ≤ x then J bt ls st μ else J bf ls st μ) = some (r, μ9) := h2
    rw [if_pos hq] at h
    obtain ⟨hm, hk⟩ := hJ _ _ _ _ h
    refine ⟨hm, fun H locs Ls hR hS hL g1 g2 => ?_⟩
    exact lv_icmp_ge hx hb hd ht (fun _ => hk H locs Ls hR hS hL g1 g2) (fun q => absurd hq q)
  · have h : (if y ≤ x then J bt ls st μ else J bf ls st μ) = some (r, μ9) := h2
    rw [if_neg hq] at h
    obtain ⟨hm, hk⟩ := hJ _ _ _ _ h
    refine ⟨hm, fun H locs Ls hR hS hL g1 g2 => ?_⟩
    rw [← hf] at hk
    exact lv_icmp_ge hx hb hd ht (fun q => absurd q hq) (fun _ => hk H locs Ls hR hS hL g1 g2)
theorem s_icmp_gt {off : Int} (cx : Cx p R s m args meth c N0 G ro z xs L t d z0 y0 μ9) (ok : okI t (pc, .if_icmp .gt off, len, as, ws) = true) (hK : ∀ ls st μ, K ls st μ = some (r, μ9) → Wk p l e R s m args below meth c Q N0 G ro z xs L t.2.2.1 z0 y0 μ9 (pc + len) ls st μ) (hJ : ∀ b ls st μ, J b ls st μ = some (r, μ9) → Wk p l e R s m args below meth c Q N0 G ro z xs L t.2.2.1 z0 y0 μ9 (bpc t b) ls st μ) (h : x1 C J (.if_icmp .gt off) as ls st μ K = some (r, μ9)) : Wk p l e R s m args below meth c Q N0 G ro z xs L t.2.2.1 z0 y0 μ9 pc ls st μ := by
  obtain ⟨hx, hb, hml, hown, hts, hmn, wf, hfr, hlo, hce, hsl⟩ := cx
  obtain ⟨bt, bf, rfl⟩ : ∃ bt bf, as = [bt, bf] := by
    rcases as with _ | ⟨a1, _ | ⟨a2, _ | ⟨a3, as⟩⟩⟩ <;> first | exact ⟨_, _, rfl⟩ | cases h
  have ok2 : (decide (decode t.2.1 pc = .ok (.if_icmp .gt off, len)) && (Nat.beq len 3 && decide ((pc : Int) + off = (bpc t bt : Int)) && Nat.beq (pc + 3) (bpc t bf))) = true := ok
  obtain ⟨hd, ok3⟩ := and2 ok2
  have hd := of_decide_eq_true hd
  obtain ⟨ok4, ok5⟩ := and2 ok3
  obtain ⟨ok6, ok7⟩ := and2 ok4
  obtain rfl : len = 3 := Nat.eq_of_beq_eq_true ok6
  have ht := of_decide_eq_true ok7
  have hf := Nat.eq_of_beq_eq_true ok5
  obtain ⟨y, st, rfl, h1⟩ := ppI_inv h
  obtain ⟨x, st, rfl, h2⟩ := ppI_inv h1
  by_cases hq : y < x
  · have h : (if y < x then J bt ls st μ else J bf ls st μ) = some (r, μ9) := h2
    rw [if_pos hq] at h
    obtain ⟨hm, hk⟩ := hJ _ _ _ _ h
    refine ⟨hm, fun H locs Ls hR hS hL g1 g2 => ?_⟩
    exact lv_icmp_gt hx hb hd ht (fun _ => hk H locs Ls hR hS hL g1 g2) (fun q => absurd hq q)
  · have h : (if y < x then J bt ls st μ else J bf ls st μ) = some (r, μ9) := h2
    rw [if_neg hq] at h
    obtain ⟨hm, hk⟩ := hJ _ _ _ _ h
    refine ⟨hm, fun H locs Ls hR hS hL g1 g2 => ?_⟩
    rw [← hf] at hk
    exact lv_icmp_gt hx hb hd ht (fun q => absurd q hq) (fun _ => hk H locs Ls hR hS hL g1 g2)
theorem s_icmp_le {off : Int} (cx : Cx p R s m args meth c N0 G ro z xs L t d z0 y0 μ9) (ok : okI t (pc, .if_icmp .le off, len, as, ws) = true) (hK : ∀ ls st μ, K ls st μ = some (r, μ9) → Wk p l e R s m args below meth c Q N0 G ro z xs L t.2.2.1 z0 y0 μ9 (pc + len) ls st μ) (hJ : ∀ b ls st μ, J b ls st μ = some (r, μ9) → Wk p l e R s m args below meth c Q N0 G ro z xs L t.2.2.1 z0 y0 μ9 (bpc t b) ls st μ) (h : x1 C J (.if_icmp .le off) as ls st μ K = some (r, μ9)) : Wk p l e R s m args below meth c Q N0 G ro z xs L t.2.2.1 z0 y0 μ9 pc ls st μ := by
  obtain ⟨hx, hb, hml, hown, hts, hmn, wf, hfr, hlo, hce, hsl⟩ := cx
  obtain ⟨bt, bf, rfl⟩ : ∃ bt bf, as = [bt, bf] := by
    rcases as with _ | ⟨a1, _ | ⟨a2, _ | ⟨a3, as⟩⟩⟩ <;> first | exact ⟨_, _, rfl⟩ | cases h
  have ok2 : (decide (decode t.2.1 pc = .ok (.if_icmp .le off, len)) && (Nat.beq len 3 && decide ((pc : Int) + off = (bpc t bt : Int)) && Nat.beq (pc + 3) (bpc t bf))) = true := ok
  obtain ⟨hd, ok3⟩ := and2 ok2
  have hd := of_decide_eq_true hd
  obtain ⟨ok4, ok5⟩ := and2 ok3
  obtain ⟨ok6, ok7⟩ := and2 ok4
  obtain rfl : len = 3 := Nat.eq_of_beq_eq_true ok6
  have ht := of_decide_eq_true ok7
  have hf := Nat.eq_of_beq_eq_true ok5
  obtain ⟨y, st, rfl, h1⟩ := ppI_inv h
  obtain ⟨x, st, rfl, h2⟩ := ppI_inv h1
  by_cases hq : x ≤ y
  · have h : (if x ≤ y then J bt ls st μ else J bf ls st μ) = some (r, μ9) := h2
    rw [if_pos hq] at h
    obtain ⟨hm, hk⟩ := hJ _ _ _ _ h
    refine ⟨hm, fun H locs Ls hR hS hL g1 g2 => ?_⟩
    exact lv_icmp_le hx hb hd ht (fun _ => hk H locs Ls hR hS hL g1 g2) (fun q => absurd hq q)
  · have h : (if x ≤ y then J bt ls st μ else J bf ls st μ) = some (r, μ9) := h2
    rw [if_neg hq] at h
    obtain ⟨hm, hk⟩ := hJ _ _ _ _ h
    refine ⟨hm, fun H locs Ls hR hS hL g1 g2 => ?_⟩
    rw [← hf] at hk
    exact lv_icmp_le hx hb hd ht (fun q => absurd q hq) (fun _ => hk H locs Ls hR hS hL g1 g2)
theorem s_ifnull {off : Int} (cx : Cx p R s m args meth c N0 G ro z xs L t d z0 y0 μ9) (ok : okI t (pc, .ifnull off, len, as, ws) = true) (hK : ∀ ls st μ, K ls st μ = some (r, μ9) → Wk p l e R s m args below meth c Q N0 G ro z xs L t.2.2.1 z0 y0 μ9 (pc + len) ls st μ) (hJ : ∀ b ls st μ, J b ls st μ = some (r, μ9) → Wk p l e R s m args below meth c Q N0 G ro z xs L t.2.2.1 z0 y0 μ9 (bpc t b) ls st μ) (h : x1 C J (.ifnull off) as ls st μ K = some (r, μ9)) : Wk p l e R s m args below meth c Q N0 G ro z xs L t.2.2.1 z0 y0 μ9 pc ls st μ := by
  obtain ⟨hx, hb, hml, hown, hts, hmn, wf, hfr, hlo, hce, hsl⟩ := cx
  obtain ⟨bt, bf, rfl⟩ : ∃ bt bf, as = [bt, bf] := by
    rcases as with _ | ⟨a1, _ | ⟨a2, _ | ⟨a3, as⟩⟩⟩ <;> first | exact ⟨_, _, rfl⟩ | cases h
  have ok2 : (decide (decode t.2.1 pc = .ok (.ifnull off, len)) && (Nat.beq len 3 && decide ((pc : Int) + off = (bpc t bt : Int)) && Nat.beq (pc + 3) (bpc t bf))) = true := ok
  obtain ⟨hd, ok3⟩ := and2 ok2
  have hd := of_decide_eq_true hd
  obtain ⟨ok4, ok5⟩ := and2 ok3
  obtain ⟨ok6, ok7⟩ := and2 ok4
  obtain rfl : len = 3 := Nat.eq_of_beq_eq_true ok6
  have ht := of_decide_eq_true ok7
  have hf := Nat.eq_of_beq_eq_true ok5
  obtain ⟨v, st, rfl, h1⟩ := p1_inv h
  rcases asN_inv h1 with ⟨rfl, h2⟩ | ⟨x, rfl, h2⟩
  · obtain ⟨hm, hk⟩ := hJ _ _ _ _ h2
    refine ⟨hm, fun H locs Ls hR hS hL g1 g2 => ?_⟩
    exact lv_ifnullN hx hb hd ht (hk H locs Ls hR hS hL g1 g2)
  · obtain ⟨hm, hk⟩ := hJ _ _ _ _ h2
    refine ⟨hm, fun H locs Ls hR hS hL g1 g2 => ?_⟩
    rw [← hf] at hk
    exact lv_ifnull hx hb hd (hk H locs Ls hR hS hL g1 g2)
theorem s_ifnonnull {off : Int} (cx : Cx p R s m args meth c N0 G ro z xs L t d z0 y0 μ9) (ok : okI t (pc, .ifnonnull off, len, as, ws) = true) (hK : ∀ ls st μ, K ls st μ = some (r, μ9) → Wk p l e R s m args below meth c Q N0 G ro z xs L t.2.2.1 z0 y0 μ9 (pc + len) ls st μ) (hJ : ∀ b ls st μ, J b ls st μ = some (r, μ9) → Wk p l e R s m args below meth c Q N0 G ro z xs L t.2.2.1 z0 y0 μ9 (bpc t b) ls st μ) (h : x1 C J (.ifnonnull off) as ls st μ K = some (r, μ9)) : Wk p l e R s m args below meth c Q N0 G ro z xs L t.2.2.1 z0 y0 μ9 pc ls st μ := by
  obtain ⟨hx, hb, hml, hown, hts, hmn, wf, hfr, hlo, hce, hsl⟩ := cx
  obtain ⟨bt, bf, rfl⟩ : ∃ bt bf, as = [bt, bf] := by
    rcases as with _ | ⟨a1, _ | ⟨a2, _ | ⟨a3, as⟩⟩⟩ <;> first | exact ⟨_, _, rfl⟩ | cases h
  have ok2 : (decide (decode t.2.1 pc = .ok (.ifnonnull off, len)) && (Nat.beq len 3 && decide ((pc : Int) + off = (bpc t bt : Int)) && Nat.beq (pc + 3) (bpc t bf))) = true := ok
  obtain ⟨hd, ok3⟩ := and2 ok2
  have hd := of_decide_eq_true hd
  obtain ⟨ok4, ok5⟩ := and2 ok3
  obtain ⟨ok6, ok7⟩ := and2 ok4
  obtain rfl : len = 3 := Nat.eq_of_beq_eq_true ok6
  have ht := of_decide_eq_true ok7
  have hf := Nat.eq_of_beq_eq_true ok5
  obtain ⟨v, st, rfl, h1⟩ := p1_inv h
  rcases asN_inv h1 with ⟨rfl, h2⟩ | ⟨x, rfl, h2⟩
  · obtain ⟨hm, hk⟩ := hJ _ _ _ _ h2
    refine ⟨hm, fun H locs Ls hR hS hL g1 g2 => ?_⟩
    rw [← hf] at hk
    exact lv_ifnonnullN hx hb hd (hk H locs Ls hR hS hL g1 g2)
  · obtain ⟨hm, hk⟩ := hJ _ _ _ _ h2
    refine ⟨hm, fun H locs Ls hR hS hL g1 g2 => ?_⟩
    exact lv_ifnonnull hx hb hd ht (hk H locs Ls hR hS hL g1 g2)
theorem s_goto {off : Int} (cx : Cx p R s m args meth c N0 G ro z xs L t d z0 y0 μ9) (ok : okI t (pc, .goto off, len, as, ws) = true) (hK : ∀ ls st μ, K ls st μ = some (r, μ9) → Wk p l e R s m args below meth c Q N0 G ro z xs L t.2.2.1 z0 y0 μ9 (pc + len) ls st μ) (hJ : ∀ b ls st μ, J b ls st μ = some (r, μ9) → Wk p l e R s m args below meth c Q N0 G ro z xs L t.2.2.1 z0 y0 μ9 (bpc t b) ls st μ) (h : x1 C J (.goto off) as ls st μ K = some (r, μ9)) : Wk p l e R s m args below meth c Q N0 G ro z xs L t.2.2.1 z0 y0 μ9 pc ls st μ := by
  obtain ⟨hx, hb, hml, hown, hts, hmn, wf, hfr, hlo, hce, hsl⟩ := cx
  obtain ⟨b, rfl⟩ : ∃ b, as = [b] := by
    rcases as with _ | ⟨a1, _ | ⟨a2, as⟩⟩ <;> first | exact ⟨_, rfl⟩ | cases h
  have ok2 : (decide (decode t.2.1 pc = .ok (.goto off, len)) && (Nat.beq len 3 && decide ((pc : Int) + off = (bpc t b : Int)))) = true := ok
  obtain ⟨hd, ok3⟩ := and2 ok2
  have hd := of_decide_eq_true hd
  obtain ⟨ok4, ok5⟩ := and2 ok3
  obtain rfl : len = 3 := Nat.eq_of_beq_eq_true ok4
  obtain ⟨hm, hk⟩ := hJ _ _ _ _ h
  exact ⟨hm, fun H locs Ls hR hS hL g1 g2 => lv_goto hx hb hd (of_decide_eq_true ok5) (hk H locs Ls hR hS hL g1 g2)⟩
end SIM
