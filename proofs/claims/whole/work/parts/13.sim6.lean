/-! SWITCHES, RETURNS; A BLOCK, A METHOD -/
theorem ofInt_eq {x : Int32} {k : Int} (h1 : -1000 ≤ k) (h2 : k ≤ 1000) : x = Int32.ofInt k ↔ x.toInt = k := by
  have e : (Int32.ofInt k).toInt = k := Int32.toInt_ofInt_of_le (by simp [Int32.minValue]; omega) (by simp [Int32.maxValue]; omega)
  constructor
  · intro h
    rw [h, e]
  · intro h
    apply Int32.toInt_inj.mp
    rw [h, e]
theorem sw_inv {d : Nat} {x : Int32} {k : Nat → Rs} {y : Option Value × MM} : ∀ (bs : List Nat) (lo : Int), -1000 ≤ lo → lo + (bs.length : Int) - 1 ≤ 1000 → sw lo bs d x k = some y → (k d = some y ∧ (x.toInt < lo ∨ lo + (bs.length : Int) - 1 < x.toInt)) ∨ ∃ (j b : Nat), bs[j]? = some b ∧ k b = some y ∧ x.toInt = lo + j
  | [], lo, h1, h2, h => Or.inl ⟨h, by simp; omega⟩
  | b :: bs, lo, h1, h2, h => by
    unfold sw at h
    simp only [List.length_cons] at h2
    split at h
    · next hx => exact Or.inr ⟨0, b, rfl, h, by rw [(ofInt_eq h1 (by omega)).mp hx]; simp⟩
    · next hx =>
      have hx : ¬ x.toInt = lo := fun q => hx ((ofInt_eq h1 (by omega)).mpr q)
      rcases sw_inv bs (lo + 1) (by omega) (by omega) h with ⟨g1, g2⟩ | ⟨j, b', g1, g2, g3⟩
      · refine Or.inl ⟨g1, ?_⟩
        simp only [List.length_cons]
        omega
      · exact Or.inr ⟨j + 1, b', g1, g2, by omega⟩
theorem lsw_inv {t : MT} {pc d : Nat} {dflt : Int} {x : Int32} {k : Nat → Rs} {y : Option Value × MM} (hd : (pc : Int) + dflt = (bpc t d : Int)) : ∀ (ps : List (Int × Int)) (bs : List Nat), bs.map (fun b => (bpc t b : Int) - (pc : Int)) = ps.map (fun q => q.2) → (∀ q ∈ ps, -1000 ≤ q.1 ∧ q.1 ≤ 1000) → lsw ps bs d x k = some y → ∃ b, k b = some y ∧ (pc : Int) + Op.lookupswitch.offset ps dflt x.toInt = (bpc t b : Int)
  | [], [], h1, h2, h => ⟨d, h, by rw [Op.lookupswitch.offset_nil]; exact hd⟩
  | [], b :: bs, h1, h2, h => by simp at h1
  | p :: ps, [], h1, h2, h => by simp at h1
  | p :: ps, b :: bs, h1, h2, h => by
    unfold lsw at h
    obtain ⟨a, o⟩ := p
    rw [List.map_cons, List.map_cons, List.cons.injEq] at h1
    obtain ⟨g1, g2⟩ := h2 (a, o) List.mem_cons_self
    rw [Op.lookupswitch.offset_cons]
    split at h
    · next hx =>
      have := (ofInt_eq g1 g2).mp hx
      rw [if_pos this.symm]
      refine ⟨b, h, ?_⟩
      have := h1.1
      simp only at this
      omega
    · next hx =>
      rw [if_neg (fun q => hx ((ofInt_eq g1 g2).mpr q.symm))]
      exact lsw_inv hd ps bs h1.2 (fun q hq => h2 q (List.mem_cons_of_mem _ hq)) h
def retOK (t : MT) (i : Instr) (r : Option Value) : Prop := match i with
  | .ireturn => ∃ x ty, r = some (.int x) ∧ t.2.2.2.1 = some ty ∧ narrow ty (.int x) = .int x
  | .lreturn => ∃ x, r = some (.long x) ∧ t.2.2.2.1 = some .long
  | .areturn => (r = some .null ∨ ∃ a, r = some (.ref a)) ∧ nrR 3 t.2.2.2.1 = true
  | .return_ => r = none ∧ t.2.2.2.1 = none
  | _ => False
section SIM6
variable {p : Program} {l : Launch} {e : Env} {R : Room} {s : State} {m : MethodId} {args : Array Value} {below : List Frame} {meth : Method} {c : Code} {Q : State → Prop}
variable {N0 : Nat} {G : GG} {ro : Nat → Nat} {z : Value} {xs : Nat → Int32} {L : Nat} {t : MT} {z0 y0 d : Nat} {r : Option Value} {μ9 : MM}
variable {C : Nat → List Value → MM → Rs} {J : Nat → LV → List Value → MM → Rs} {K : LV → List Value → MM → Rs} {pc len : Nat} {as ws : List Nat} {ls : LV} {st : List Value} {μ : MM}
theorem s_tableswitch {dd lo hi : Int} {offs : Array Int} (cx : Cx p R s m args meth c N0 G ro z xs L t d z0 y0 μ9) (ok : okI t (pc, .tableswitch dd lo hi offs, len, as, ws) = true) (hK : ∀ ls st μ, K ls st μ = some (r, μ9) → Wk p l e R s m args below meth c Q N0 G ro z xs L t.2.2.1 z0 y0 μ9 (pc + len) ls st μ) (hJ : ∀ b ls st μ, J b ls st μ = some (r, μ9) → Wk p l e R s m args below meth c Q N0 G ro z xs L t.2.2.1 z0 y0 μ9 (bpc t b) ls st μ) (h : x1 C J (.tableswitch dd lo hi offs) as ls st μ K = some (r, μ9)) : Wk p l e R s m args below meth c Q N0 G ro z xs L t.2.2.1 z0 y0 μ9 pc ls st μ := by
  obtain ⟨hx, hb, hml, hown, hts, hmn, wf, hfr, hlo, hce, hsl⟩ := cx
  unfold okI at ok
  dsimp only at ok
  obtain ⟨hd, ok3⟩ := and2 ok
  have hd := of_decide_eq_true hd
  split at ok3
  · next b0 bs =>
    obtain ⟨ok3, o5⟩ := and2 ok3
    obtain ⟨ok3, o4⟩ := and2 ok3
    obtain ⟨ok3, o3⟩ := and2 ok3
    obtain ⟨o1, o2⟩ := and2 ok3
    have o1 := of_decide_eq_true o1
    have o2 := of_decide_eq_true o2
    have o3 := of_decide_eq_true o3
    have o4 := of_decide_eq_true o4
    have o5 := of_decide_eq_true o5
    obtain ⟨x, st, rfl, h1⟩ := ppI_inv h
    rcases sw_inv bs lo o4 (by omega) h1 with ⟨h2, h3⟩ | ⟨j, b, h2, h3, h4⟩
    · obtain ⟨hm, hk⟩ := hJ _ _ _ _ h2
      exact ⟨hm, fun H locs Ls hR hS hL g1 g2 => lv_tableOut hx hb hd (by omega) o1 (hk H locs Ls hR hS hL g1 g2)⟩
    · obtain ⟨hm, hk⟩ := hJ _ _ _ _ h3
      have hj : j < bs.length := (List.getElem?_eq_some_iff.mp h2).1
      refine ⟨hm, fun H locs Ls hR hS hL g1 g2 => lv_tableIn (off := (bpc t b : Int) - (pc : Int)) hx hb hd (by omega) (by omega) ?_ (by omega) (hk H locs Ls hR hS hL g1 g2)⟩
      rw [h4, show (lo + (j : Int) - lo).toNat = j by omega, ← Array.getElem?_toList, ← o2, List.getElem?_map, h2]
      rfl
  · cases ok3
theorem s_lookupswitch {dd : Int} {ps : Array (Int × Int)} (cx : Cx p R s m args meth c N0 G ro z xs L t d z0 y0 μ9) (ok : okI t (pc, .lookupswitch dd ps, len, as, ws) = true) (hK : ∀ ls st μ, K ls st μ = some (r, μ9) → Wk p l e R s m args below meth c Q N0 G ro z xs L t.2.2.1 z0 y0 μ9 (pc + len) ls st μ) (hJ : ∀ b ls st μ, J b ls st μ = some (r, μ9) → Wk p l e R s m args below meth c Q N0 G ro z xs L t.2.2.1 z0 y0 μ9 (bpc t b) ls st μ) (h : x1 C J (.lookupswitch dd ps) as ls st μ K = some (r, μ9)) : Wk p l e R s m args below meth c Q N0 G ro z xs L t.2.2.1 z0 y0 μ9 pc ls st μ := by
  obtain ⟨hx, hb, hml, hown, hts, hmn, wf, hfr, hlo, hce, hsl⟩ := cx
  unfold okI at ok
  dsimp only at ok
  obtain ⟨hd, ok3⟩ := and2 ok
  have hd := of_decide_eq_true hd
  split at ok3
  · next b0 bs =>
    obtain ⟨ok3, o4⟩ := and2 ok3
    obtain ⟨ok3, o3⟩ := and2 ok3
    obtain ⟨o1, o2⟩ := and2 ok3
    have o1 := of_decide_eq_true o1
    have o2 := of_decide_eq_true o2
    obtain ⟨x, st, rfl, h1⟩ := ppI_inv h
    obtain ⟨b, h2, h3⟩ := lsw_inv o1 ps.toList bs o2 (fun q hq => by
      have := List.all_eq_true.mp o4 q hq
      obtain ⟨w1, w2⟩ := and2 this
      exact ⟨of_decide_eq_true w1, of_decide_eq_true w2⟩) h1
    obtain ⟨hm, hk⟩ := hJ _ _ _ _ h2
    exact ⟨hm, fun H locs Ls hR hS hL g1 g2 => lv_lookup hx hb hd o3 rfl h3 (hk H locs Ls hR hS hL g1 g2)⟩
  · cases ok3
theorem s_ireturn (hret : ∀ (pc : Nat) (i : Instr) (H : Heap) (locs : List Loc) (Ls : Array Slot), decode t.2.1 pc = .ok (i, 1) → retOK t i r → Rep N0 G ro xs L μ9 H → va_S (fun q => N0 ≤ q) s.heap H locs → W p l e R s m args below meth c H locs (msz μ9 - z0) (msl μ9 - y0) Q (F0 m pc Ls ((r.map (cv (cad N0 ro) z)).toList))) (cx : Cx p R s m args meth c N0 G ro z xs L t d z0 y0 μ9) (ok : okI t (pc, .ireturn, len, as, ws) = true) (hK : ∀ ls st μ, K ls st μ = some (r, μ9) → Wk p l e R s m args below meth c Q N0 G ro z xs L t.2.2.1 z0 y0 μ9 (pc + len) ls st μ) (hJ : ∀ b ls st μ, J b ls st μ = some (r, μ9) → Wk p l e R s m args below meth c Q N0 G ro z xs L t.2.2.1 z0 y0 μ9 (bpc t b) ls st μ) (h : x1 C J (.ireturn) as ls st μ K = some (r, μ9)) : Wk p l e R s m args below meth c Q N0 G ro z xs L t.2.2.1 z0 y0 μ9 pc ls st μ := by
  unfold okI at ok
  dsimp only at ok
  obtain ⟨hd, ok3⟩ := and2 ok
  have hd := of_decide_eq_true hd
  obtain ⟨ok4, ok5⟩ := and2 ok3
  obtain rfl : len = 1 := Nat.eq_of_beq_eq_true ok4
  obtain ⟨v, rfl⟩ : ∃ v, st = [v] := by
    rcases st with _ | ⟨v, _ | ⟨w, st⟩⟩ <;> first | exact ⟨_, rfl⟩ | cases h
  obtain ⟨x, rfl, h1⟩ := asI_inv h
  have key : (r = some (.int x) ∧ μ9 = μ) ∧ ∃ ty, t.2.2.2.1 = some ty ∧ narrow ty (.int x) = .int x := by
    generalize t.2.2.2.1 = w at ok5
    split at ok5
    · cases h1
      exact ⟨⟨rfl, rfl⟩, _, rfl, rfl⟩
    · obtain ⟨h2, h3⟩ := gd_inv h1
      cases h3
      exact ⟨⟨rfl, rfl⟩, _, rfl, (bool_num h2).1⟩
    · obtain ⟨h2, h3⟩ := gd_inv h1
      cases h3
      have h2 := of_decide_eq_true h2
      exact ⟨⟨rfl, rfl⟩, _, rfl, by show Value.int x.toInt8.toInt32 = _; rw [h2]⟩
    · obtain ⟨h2, h3⟩ := gd_inv h1
      cases h3
      have h2 := of_decide_eq_true h2
      exact ⟨⟨rfl, rfl⟩, _, rfl, by show Value.int x.toUInt32.toUInt16.toUInt32.toInt32 = _; rw [h2]⟩
    · cases ok5
  obtain ⟨⟨rfl, rfl⟩, ty, k1, k2⟩ := key
  exact ⟨mle_rf, fun H locs Ls hR hS hL g1 g2 => hret pc .ireturn H locs Ls hd ⟨x, ty, rfl, k1, k2⟩ hR hS⟩
theorem s_lreturn (hret : ∀ (pc : Nat) (i : Instr) (H : Heap) (locs : List Loc) (Ls : Array Slot), decode t.2.1 pc = .ok (i, 1) → retOK t i r → Rep N0 G ro xs L μ9 H → va_S (fun q => N0 ≤ q) s.heap H locs → W p l e R s m args below meth c H locs (msz μ9 - z0) (msl μ9 - y0) Q (F0 m pc Ls ((r.map (cv (cad N0 ro) z)).toList))) (cx : Cx p R s m args meth c N0 G ro z xs L t d z0 y0 μ9) (ok : okI t (pc, .lreturn, len, as, ws) = true) (hK : ∀ ls st μ, K ls st μ = some (r, μ9) → Wk p l e R s m args below meth c Q N0 G ro z xs L t.2.2.1 z0 y0 μ9 (pc + len) ls st μ) (hJ : ∀ b ls st μ, J b ls st μ = some (r, μ9) → Wk p l e R s m args below meth c Q N0 G ro z xs L t.2.2.1 z0 y0 μ9 (bpc t b) ls st μ) (h : x1 C J (.lreturn) as ls st μ K = some (r, μ9)) : Wk p l e R s m args below meth c Q N0 G ro z xs L t.2.2.1 z0 y0 μ9 pc ls st μ := by
  unfold okI at ok
  dsimp only at ok
  obtain ⟨hd, ok3⟩ := and2 ok
  have hd := of_decide_eq_true hd
  obtain ⟨ok4, ok5⟩ := and2 ok3
  obtain rfl : len = 1 := Nat.eq_of_beq_eq_true ok4
  obtain ⟨v, rfl⟩ : ∃ v, st = [v] := by
    rcases st with _ | ⟨v, _ | ⟨w, st⟩⟩ <;> first | exact ⟨_, rfl⟩ | cases h
  obtain ⟨x, rfl, h1⟩ := asL_inv h
  cases h1
  exact ⟨mle_rf, fun H locs Ls hR hS hL g1 g2 => hret pc .lreturn H locs Ls hd ⟨x, rfl, of_decide_eq_true ok5⟩ hR hS⟩
theorem s_areturn (hret : ∀ (pc : Nat) (i : Instr) (H : Heap) (locs : List Loc) (Ls : Array Slot), decode t.2.1 pc = .ok (i, 1) → retOK t i r → Rep N0 G ro xs L μ9 H → va_S (fun q => N0 ≤ q) s.heap H locs → W p l e R s m args below meth c H locs (msz μ9 - z0) (msl μ9 - y0) Q (F0 m pc Ls ((r.map (cv (cad N0 ro) z)).toList))) (cx : Cx p R s m args meth c N0 G ro z xs L t d z0 y0 μ9) (ok : okI t (pc, .areturn, len, as, ws) = true) (hK : ∀ ls st μ, K ls st μ = some (r, μ9) → Wk p l e R s m args below meth c Q N0 G ro z xs L t.2.2.1 z0 y0 μ9 (pc + len) ls st μ) (hJ : ∀ b ls st μ, J b ls st μ = some (r, μ9) → Wk p l e R s m args below meth c Q N0 G ro z xs L t.2.2.1 z0 y0 μ9 (bpc t b) ls st μ) (h : x1 C J (.areturn) as ls st μ K = some (r, μ9)) : Wk p l e R s m args below meth c Q N0 G ro z xs L t.2.2.1 z0 y0 μ9 pc ls st μ := by
  unfold okI at ok
  dsimp only at ok
  obtain ⟨hd, ok3⟩ := and2 ok
  have hd := of_decide_eq_true hd
  obtain ⟨ok4, ok5⟩ := and2 ok3
  obtain rfl : len = 1 := Nat.eq_of_beq_eq_true ok4
  obtain ⟨v, rfl⟩ : ∃ v, st = [v] := by
    rcases st with _ | ⟨v, _ | ⟨w, st⟩⟩ <;> first | exact ⟨_, rfl⟩ | cases h
  rcases asN_inv h with ⟨rfl, h1⟩ | ⟨x, rfl, h1⟩
  · cases h1
    exact ⟨mle_rf, fun H locs Ls hR hS hL g1 g2 => hret pc .areturn H locs Ls hd ⟨Or.inl rfl, ok5⟩ hR hS⟩
  · cases h1
    exact ⟨mle_rf, fun H locs Ls hR hS hL g1 g2 => hret pc .areturn H locs Ls hd ⟨Or.inr ⟨_, rfl⟩, ok5⟩ hR hS⟩
theorem s_return (hret : ∀ (pc : Nat) (i : Instr) (H : Heap) (locs : List Loc) (Ls : Array Slot), decode t.2.1 pc = .ok (i, 1) → retOK t i r → Rep N0 G ro xs L μ9 H → va_S (fun q => N0 ≤ q) s.heap H locs → W p l e R s m args below meth c H locs (msz μ9 - z0) (msl μ9 - y0) Q (F0 m pc Ls ((r.map (cv (cad N0 ro) z)).toList))) (cx : Cx p R s m args meth c N0 G ro z xs L t d z0 y0 μ9) (ok : okI t (pc, .return_, len, as, ws) = true) (hK : ∀ ls st μ, K ls st μ = some (r, μ9) → Wk p l e R s m args below meth c Q N0 G ro z xs L t.2.2.1 z0 y0 μ9 (pc + len) ls st μ) (hJ : ∀ b ls st μ, J b ls st μ = some (r, μ9) → Wk p l e R s m args below meth c Q N0 G ro z xs L t.2.2.1 z0 y0 μ9 (bpc t b) ls st μ) (h : x1 C J (.return_) as ls st μ K = some (r, μ9)) : Wk p l e R s m args below meth c Q N0 G ro z xs L t.2.2.1 z0 y0 μ9 pc ls st μ := by
  unfold okI at ok
  dsimp only at ok
  obtain ⟨hd, ok3⟩ := and2 ok
  have hd := of_decide_eq_true hd
  obtain ⟨ok4, ok5⟩ := and2 ok3
  obtain rfl : len = 1 := Nat.eq_of_beq_eq_true ok4
  obtain rfl : st = [] := by
    rcases st with _ | ⟨v, st⟩ <;> first | rfl | cases h
  cases h
  exact ⟨mle_rf, fun H locs Ls hR hS hL g1 g2 => hret pc .return_ H locs Ls hd ⟨rfl, of_decide_eq_true ok5⟩ hR hS⟩
/-- any instruction -/
theorem sim1 {i : Instr} (hok : ∀ M, M + 1 < allM.length → ∃ pw, okMT (mt M) pw = true) (hobj : Cond.instanceMethod objectInit ∈ gTbl ∧ Cond.code objectInit ⟨#[0xb1]⟩ 1 none ∈ gTbl) (hC : ∀ M ar μ r1 μ1, M + 1 < allM.length → C M ar μ = some (r1, μ1) → Con N0 G ro z xs L d M ar μ r1 μ1)
    (hret : ∀ (pc : Nat) (i : Instr) (H : Heap) (locs : List Loc) (Ls : Array Slot), decode t.2.1 pc = .ok (i, 1) → retOK t i r → Rep N0 G ro xs L μ9 H → va_S (fun q => N0 ≤ q) s.heap H locs → W p l e R s m args below meth c H locs (msz μ9 - z0) (msl μ9 - y0) Q (F0 m pc Ls ((r.map (cv (cad N0 ro) z)).toList)))
    (cx : Cx p R s m args meth c N0 G ro z xs L t d z0 y0 μ9) (ok : okI t (pc, i, len, as, ws) = true) (hK : ∀ ls st μ, K ls st μ = some (r, μ9) → Wk p l e R s m args below meth c Q N0 G ro z xs L t.2.2.1 z0 y0 μ9 (pc + len) ls st μ) (hJ : ∀ b ls st μ, J b ls st μ = some (r, μ9) → Wk p l e R s m args below meth c Q N0 G ro z xs L t.2.2.1 z0 y0 μ9 (bpc t b) ls st μ) (h : x1 C J i as ls st μ K = some (r, μ9)) : Wk p l e R s m args below meth c Q N0 G ro z xs L t.2.2.1 z0 y0 μ9 pc ls st μ := by
  cases i with
  | aconst_null => exact s_aconst_null  cx ok hK hJ h
  | iadd => exact s_iadd  cx ok hK hJ h
  | isub => exact s_isub  cx ok hK hJ h
  | imul => exact s_imul  cx ok hK hJ h
  | iand => exact s_iand  cx ok hK hJ h
  | ior => exact s_ior  cx ok hK hJ h
  | ixor => exact s_ixor  cx ok hK hJ h
  | ishl => exact s_ishl  cx ok hK hJ h
  | ishr => exact s_ishr  cx ok hK hJ h
  | ladd => exact s_ladd  cx ok hK hJ h
  | lsub => exact s_lsub  cx ok hK hJ h
  | lmul => exact s_lmul  cx ok hK hJ h
  | land => exact s_land  cx ok hK hJ h
  | idiv => exact s_idiv  cx ok hK hJ h
  | irem => exact s_irem  cx ok hK hJ h
  | ldiv => exact s_ldiv  cx ok hK hJ h
  | lrem => exact s_lrem  cx ok hK hJ h
  | ineg => exact s_ineg  cx ok hK hJ h
  | i2l => exact s_i2l  cx ok hK hJ h
  | i2b => exact s_i2b  cx ok hK hJ h
  | i2c => exact s_i2c  cx ok hK hJ h
  | lneg => exact s_lneg  cx ok hK hJ h
  | lshl => exact s_lshl  cx ok hK hJ h
  | lshr => exact s_lshr  cx ok hK hJ h
  | lcmp => exact s_lcmp  cx ok hK hJ h
  | dup => exact s_dup  cx ok hK hJ h
  | pop => exact s_pop  cx ok hK hJ h
  | dup2 => exact s_dup2  cx ok hK hJ h
  | arraylength => exact s_arraylength  cx ok hK hJ h
  | iaload => exact s_iaload  cx ok hK hJ h
  | baload => exact s_baload  cx ok hK hJ h
  | laload => exact s_laload  cx ok hK hJ h
  | aaload => exact s_aaload  cx ok hK hJ h
  | iastore => exact s_iastore  cx ok hK hJ h
  | lastore => exact s_lastore  cx ok hK hJ h
  | bastore => exact s_bastore  cx ok hK hJ h
  | aastore => exact s_aastore  cx ok hK hJ h
  | iconst n => exact s_iconst  cx ok hK hJ h
  | bipush n => exact s_bipush  cx ok hK hJ h
  | sipush n => exact s_sipush  cx ok hK hJ h
  | lconst n => exact s_lconst  cx ok hK hJ h
  | iload n => exact s_iload  cx ok hK hJ h
  | lload n => exact s_lload  cx ok hK hJ h
  | iload_n n => exact s_iload_n  cx ok hK hJ h
  | lload_n n => exact s_lload_n  cx ok hK hJ h
  | aload n => exact s_aload  cx ok hK hJ h
  | aload_n n => exact s_aload_n  cx ok hK hJ h
  | istore n => exact s_istore  cx ok hK hJ h
  | istore_n n => exact s_istore_n  cx ok hK hJ h
  | lstore n => exact s_lstore  cx ok hK hJ h
  | lstore_n n => exact s_lstore_n  cx ok hK hJ h
  | astore n => exact s_astore  cx ok hK hJ h
  | astore_n n => exact s_astore_n  cx ok hK hJ h
  | getfield n => exact s_getfield  cx ok hK hJ h
  | putfield n => exact s_putfield  cx ok hK hJ h
  | getstatic n => exact s_getstatic  cx ok hK hJ h
  | ldc n => exact s_ldc  cx ok hK hJ h
  | newarray n => exact s_newarray  cx ok hK hJ h
  | new n => exact s_new  cx ok hK hJ h
  | anewarray n => exact s_anewarray  cx ok hK hJ h
  | instanceof n => exact s_instanceof  cx ok hK hJ h
  | goto n => exact s_goto  cx ok hK hJ h
  | ifnull n => exact s_ifnull  cx ok hK hJ h
  | ifnonnull n => exact s_ifnonnull  cx ok hK hJ h
  | ldc_w n => exact s_ldcw  cx ok hK hJ h
  | ldc2_w n => exact s_ldc2  cx ok hK hJ h
  | iinc n q => exact s_iinc  cx ok hK hJ h
  | nop => exact s_nop  cx ok hK hJ h
  | tableswitch a1 a2 a3 a4 => exact s_tableswitch  cx ok hK hJ h
  | lookupswitch a1 a2 => exact s_lookupswitch  cx ok hK hJ h
  | invokestatic n => exact s_invokestatic hok hC cx ok hK hJ h
  | invokespecial n => exact s_invokespecial hok hobj hC cx ok hK hJ h
  | invokevirtual n => exact s_invokevirtual hok hC cx ok hK hJ h
  | ireturn => exact s_ireturn hret cx ok hK hJ h
  | lreturn => exact s_lreturn hret cx ok hK hJ h
  | areturn => exact s_areturn hret cx ok hK hJ h
  | return_ => exact s_return hret cx ok hK hJ h
  | ifCond cd off =>
    cases cd
    · exact s_if_eq cx ok hK hJ h
    · exact s_if_ne cx ok hK hJ h
    · exact s_if_lt cx ok hK hJ h
    · exact s_if_ge cx ok hK hJ h
    · exact s_if_gt cx ok hK hJ h
    · exact s_if_le cx ok hK hJ h
  | if_icmp cd off =>
    cases cd
    · exact s_icmp_eq cx ok hK hJ h
    · exact s_icmp_ne cx ok hK hJ h
    · exact s_icmp_lt cx ok hK hJ h
    · exact s_icmp_ge cx ok hK hJ h
    · exact s_icmp_gt cx ok hK hJ h
    · exact s_icmp_le cx ok hK hJ h
  | _ => cases h
/-- a block from an instruction on -/
theorem simL (hok : ∀ M, M + 1 < allM.length → ∃ pw, okMT (mt M) pw = true) (hobj : Cond.instanceMethod objectInit ∈ gTbl ∧ Cond.code objectInit ⟨#[0xb1]⟩ 1 none ∈ gTbl) (hC : ∀ M ar μ r1 μ1, M + 1 < allM.length → C M ar μ = some (r1, μ1) → Con N0 G ro z xs L d M ar μ r1 μ1)
    (hret : ∀ (pc : Nat) (i : Instr) (H : Heap) (locs : List Loc) (Ls : Array Slot), decode t.2.1 pc = .ok (i, 1) → retOK t i r → Rep N0 G ro xs L μ9 H → va_S (fun q => N0 ≤ q) s.heap H locs → W p l e R s m args below meth c H locs (msz μ9 - z0) (msl μ9 - y0) Q (F0 m pc Ls ((r.map (cv (cad N0 ro) z)).toList)))
    (cx : Cx p R s m args meth c N0 G ro z xs L t d z0 y0 μ9) (hJ : ∀ b ls st μ, J b ls st μ = some (r, μ9) → Wk p l e R s m args below meth c Q N0 G ro z xs L t.2.2.1 z0 y0 μ9 (bpc t b) ls st μ) : ∀ (es : List RI) (pc : Nat) (ls : LV) (st : List Value) (μ : MM), okL t pc es = true → xb C J es ls st μ = some (r, μ9) → Wk p l e R s m args below meth c Q N0 G ro z xs L t.2.2.1 z0 y0 μ9 pc ls st μ
  | [], _, _, _, _, _, h => by cases h
  | (pc0, i, len, as, ws) :: es, pc, ls, st, μ, ok, h => by
    unfold okL at ok
    obtain ⟨ok, ok3⟩ := and2 ok
    obtain ⟨ok1, ok2⟩ := and2 ok
    have e1 : pc0 = pc := Nat.eq_of_beq_eq_true ok1
    subst e1
    exact sim1 (len := len) (ws := ws) hok hobj hC hret cx ok2 (fun ls st μ hk => simL hok hobj hC hret cx hJ es _ ls st μ ok3 hk) hJ h
end SIM6
