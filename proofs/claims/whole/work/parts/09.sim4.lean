/-! ARRAYS AND NEW CELLS -/
theorem cell_arr {G : GG} {f : Nat → Nat} {μ : MM} {H : Heap} {q k n : Nat} {ty : FieldType} {g : Nat → Value} (hs : shp μ q = k) (hk : kty k = some ty) (hn : aln μ q = n) (hg : ∀ j, elv f μ q j ty = g j) (h : H[f q]? = some (arrV (G.2.2 k) n g)) : cellok G f μ H q := by
  unfold cellok
  rw [hs, hk, hn]
  show H[f q]? = some (arrV (G.2.2 k) n (fun j => elv f μ q j ty))
  rw [show (fun j => elv f μ q j ty) = g from funext hg]
  exact h
theorem updV_if (f : Nat → Value) (k : Nat) (x : Value) (j : Nat) : updV f k x j = if j = k then x else f j := rfl
section SIM4
variable {p : Program} {l : Launch} {e : Env} {R : Room} {s : State} {m : MethodId} {args : Array Value} {below : List Frame} {meth : Method} {c : Code} {Q : State → Prop}
variable {N0 : Nat} {G : GG} {ro : Nat → Nat} {z : Value} {xs : Nat → Int32} {L : Nat} {t : MT} {z0 y0 d : Nat} {r : Option Value} {μ9 : MM}
variable {C : Nat → List Value → MM → Rs} {J : Nat → LV → List Value → MM → Rs} {K : LV → List Value → MM → Rs} {pc len : Nat} {as ws : List Nat} {ls : LV} {st : List Value} {μ : MM}
theorem ro_at {H : Heap} {a kd : Nat} (hR : Rep N0 G ro xs L μ H) (hs : shp μ a = kd) (h1 : 30 ≤ kd) (h2 : kd < 34) : a < 28 ∧ roK a = kd := by
  have := shOK_ro (hR.2.1 a) (by omega) (by omega)
  exact ⟨this.1, by rw [← this.2]; exact hs⟩
theorem roK_31 {a : Nat} (h : roK a = 31) : 13 ≤ a ∧ a < 26 := by
  unfold roK at h
  split at h
  · omega
  · split at h
    · omega
    · split at h <;> omega
theorem roK_32 {a : Nat} (h : roK a = 32) (h2 : a < 28) : a = 26 := by
  unfold roK at h
  split at h
  · omega
  · split at h
    · omega
    · split at h <;> omega
theorem len_nl {cA : ClassId} {n : Nat} {f : Nat → Value} : (arrV cA n f).slots.size.toInt32 = Int32.ofNat n := by rw [arrV_size] <;> rfl
theorem w_alen {H : Heap} {locs : List Loc} {cells slots a k : Nat} {ty : FieldType} {Ls : Array Slot} {rest : List Value} (cx : Cx p R s m args meth c N0 G ro z xs L t d z0 y0 μ9) (hR : Rep N0 G ro xs L μ H) (hs : shp μ a = k) (hk : kty k = some ty) (hd : decode t.2.1 pc = .ok (.arraylength, 1))
    (kk : W p l e R s m args below meth c H locs cells slots Q (F0 m (pc + 1) Ls (.int (Int32.ofNat (aln μ a)) :: rest))) : W p l e R s m args below meth c H locs cells slots Q (F0 m pc Ls (.ref (cad N0 ro a) :: rest)) := by
  obtain ⟨hx, hb, hml, hown, hts, hmn, wf, hfr, hlo, hce, hsl⟩ := cx
  exact W.alen (n := Int32.ofNat (aln μ a)) hx hb (hR.arr hs hk) ((wf.2.2.1 k ty hk).1 _ _) len_nl rfl rfl hd kk
theorem s_arraylength  (cx : Cx p R s m args meth c N0 G ro z xs L t d z0 y0 μ9) (ok : okI t (pc, .arraylength, len, as, ws) = true) (hK : ∀ ls st μ, K ls st μ = some (r, μ9) → Wk p l e R s m args below meth c Q N0 G ro z xs L t.2.2.1 z0 y0 μ9 (pc + len) ls st μ) (hJ : ∀ b ls st μ, J b ls st μ = some (r, μ9) → Wk p l e R s m args below meth c Q N0 G ro z xs L t.2.2.1 z0 y0 μ9 (bpc t b) ls st μ) (h : x1 C J (.arraylength) as ls st μ K = some (r, μ9)) : Wk p l e R s m args below meth c Q N0 G ro z xs L t.2.2.1 z0 y0 μ9 pc ls st μ := by
  have cx0 := cx
  obtain ⟨hx, hb, hml, hown, hts, hmn, wf, hfr, hlo, hce, hsl⟩ := cx
  unfold okI at ok
  dsimp only at ok
  obtain ⟨hd, ok3⟩ := and2 ok
  have hd := of_decide_eq_true hd
  obtain rfl : len = 1 := Nat.eq_of_beq_eq_true ok3
  obtain ⟨a, st, rfl, h1⟩ := ppR_inv h
  obtain ⟨hc, h2⟩ := gd_inv h1
  obtain ⟨hm, hk⟩ := hK _ _ _ h2
  refine ⟨hm, fun H locs Ls hR hS hL g1 g2 => ?_⟩
  have hk := hk H locs Ls hR hS hL g1 g2
  have hc := cin_mem hc
  simp only [List.mem_cons, List.not_mem_nil, or_false] at hc
  rcases hc with hc | hc | hc | hc | hc | hc | hc | hc
  · exact w_alen cx0 hR hc rfl hd hk
  · exact w_alen cx0 hR hc rfl hd hk
  · exact w_alen cx0 hR hc rfl hd hk
  · exact w_alen cx0 hR hc rfl hd hk
  · exact w_alen cx0 hR hc rfl hd hk
  · exact w_alen cx0 hR hc rfl hd hk
  · obtain ⟨q1, q2⟩ := ro_at hR hc (by omega) (by omega)
    obtain ⟨q3, q4⟩ := roK_31 q2
    obtain ⟨i, rfl⟩ : ∃ i, a = 13 + i := ⟨a - 13, by omega⟩
    have hi : i < 13 := by omega
    obtain ⟨aK, aV, e1, e2, e3⟩ := wf.2.2.2.1 i hi
    obtain ⟨cell, c1, c2, c3, c4, c5, c6, c7⟩ := (e3.1 0 (by decide)).2.2.2
    have hk2 : W p l e R s m args below meth c H locs (msz μ - z0) (msl μ - y0) Q (F0 m (pc + 1) Ls (.int (Int32.ofNat (aln μ (13 + i))) :: st.map (cv (cad N0 ro) z))) := hk
    have e5 : cad N0 ro (13 + i) = aV 0 := by unfold cad; rw [if_pos q1, e2]
    show W p l e R s m args below meth c H locs (msz μ - z0) (msl μ - y0) Q (F0 m pc Ls (.ref (cad N0 ro (13 + i)) :: st.map (cv (cad N0 ro) z)))
    rw [e5]
    refine W.alen (n := Int32.ofNat (aln μ (13 + i))) hx hb (by rw [hS.2.1 _ (Array.getElem?_eq_some_iff.mp c1).1 c7]; exact c1) c2 ?_ rfl rfl hd hk2
    rw [(hR.2.2.1.1 i hi).2.2.1]
    exact c5
  · obtain ⟨q1, q2⟩ := ro_at hR hc (by omega) (by omega)
    have ha := roK_32 q2 q1
    subst ha
    have e5 : cad N0 ro 26 = ro 26 := by unfold cad; rw [if_pos q1]
    show W p l e R s m args below meth c H locs (msz μ - z0) (msl μ - y0) Q (F0 m pc Ls (.ref (cad N0 ro 26) :: st.map (cv (cad N0 ro) z)))
    rw [e5]
    rw [hR.2.2.1.2.1] at hk
    exact va_slen hx hb wf.2.2.2.2.2.2.1.1 wf.2.2.2.2.2.2.1.2.1 wf.2.2.2.2.2.2.1.2.2 hS hd hk
theorem s_iaload  (cx : Cx p R s m args meth c N0 G ro z xs L t d z0 y0 μ9) (ok : okI t (pc, .iaload, len, as, ws) = true) (hK : ∀ ls st μ, K ls st μ = some (r, μ9) → Wk p l e R s m args below meth c Q N0 G ro z xs L t.2.2.1 z0 y0 μ9 (pc + len) ls st μ) (hJ : ∀ b ls st μ, J b ls st μ = some (r, μ9) → Wk p l e R s m args below meth c Q N0 G ro z xs L t.2.2.1 z0 y0 μ9 (bpc t b) ls st μ) (h : x1 C J (.iaload) as ls st μ K = some (r, μ9)) : Wk p l e R s m args below meth c Q N0 G ro z xs L t.2.2.1 z0 y0 μ9 pc ls st μ := by
  obtain ⟨hx, hb, hml, hown, hts, hmn, wf, hfr, hlo, hce, hsl⟩ := cx
  unfold okI at ok
  dsimp only at ok
  obtain ⟨hd, ok3⟩ := and2 ok
  have hd := of_decide_eq_true hd
  obtain rfl : len = 1 := Nat.eq_of_beq_eq_true ok3
  obtain ⟨i, st, rfl, h1⟩ := ppI_inv h
  obtain ⟨a, st, rfl, h2⟩ := ppR_inv h1
  obtain ⟨hc0, h3⟩ := gd_inv h2
  obtain ⟨hc, hin⟩ := and2 hc0
  obtain ⟨i1, i2, i3⟩ := inb_in hin
  obtain ⟨hm, hk⟩ := hK _ _ _ h3
  refine ⟨hm, fun H locs Ls hR hS hL g1 g2 => ?_⟩
  have hk := hk H locs Ls hR hS hL g1 g2
  have hc := cin_mem hc
  simp only [List.mem_cons, List.not_mem_nil, or_false] at hc
  rcases hc with hc | hc
  · refine W.iald (v := .int (gI μ a i.toNatClampNeg)) hx hb (hR.arr hc rfl) ((wf.2.2.1 20 .int rfl).1 _ _) (fun q => by cases q) (by rw [arrV_size]; exact i1) (by rw [arrV_read _ _ i2]; rfl) rfl rfl hd hk
  · obtain ⟨q1, q2⟩ := ro_at hR hc (by omega) (by omega)
    have ha := roK_32 q2 q1
    subst ha
    have e5 : cad N0 ro 26 = ro 26 := by unfold cad; rw [if_pos q1]
    show W p l e R s m args below meth c H locs (msz μ - z0) (msl μ - y0) Q (F0 m pc Ls (.int i :: .ref (cad N0 ro 26) :: st.map (cv (cad N0 ro) z)))
    rw [e5]
    rw [hR.2.2.1.2.2] at hk
    rw [hR.2.2.1.2.1] at i1
    exact va_sld hx hb wf.2.2.2.2.2.2.1.1 wf.2.2.2.2.2.2.1.2.1 wf.2.2.2.2.2.2.1.2.2 hS i1 hd hk
theorem s_baload  (cx : Cx p R s m args meth c N0 G ro z xs L t d z0 y0 μ9) (ok : okI t (pc, .baload, len, as, ws) = true) (hK : ∀ ls st μ, K ls st μ = some (r, μ9) → Wk p l e R s m args below meth c Q N0 G ro z xs L t.2.2.1 z0 y0 μ9 (pc + len) ls st μ) (hJ : ∀ b ls st μ, J b ls st μ = some (r, μ9) → Wk p l e R s m args below meth c Q N0 G ro z xs L t.2.2.1 z0 y0 μ9 (bpc t b) ls st μ) (h : x1 C J (.baload) as ls st μ K = some (r, μ9)) : Wk p l e R s m args below meth c Q N0 G ro z xs L t.2.2.1 z0 y0 μ9 pc ls st μ := by
  obtain ⟨hx, hb, hml, hown, hts, hmn, wf, hfr, hlo, hce, hsl⟩ := cx
  unfold okI at ok
  dsimp only at ok
  obtain ⟨hd, ok3⟩ := and2 ok
  have hd := of_decide_eq_true hd
  obtain rfl : len = 1 := Nat.eq_of_beq_eq_true ok3
  obtain ⟨i, st, rfl, h1⟩ := ppI_inv h
  obtain ⟨a, st, rfl, h2⟩ := ppR_inv h1
  obtain ⟨hc0, h3⟩ := gd_inv h2
  obtain ⟨hc, hin⟩ := and2 hc0
  obtain ⟨i1, i2, i3⟩ := inb_in hin
  obtain ⟨hm, hk⟩ := hK _ _ _ h3
  refine ⟨hm, fun H locs Ls hR hS hL g1 g2 => ?_⟩
  have hk := hk H locs Ls hR hS hL g1 g2
  have hc := cin_mem hc
  simp only [List.mem_cons, List.not_mem_nil, or_false] at hc
  rcases hc with hc | hc | hc
  · refine W.zald (v := .int (gI μ a i.toNatClampNeg)) hx hb (hR.arr hc rfl) ((wf.2.2.1 22 .boolean rfl).1 _ _) (fun q => by cases q) (by rw [arrV_size]; exact i1) (by rw [arrV_read _ _ i2]; rfl) rfl rfl hd hk
  · refine W.bald (v := .int (gI μ a i.toNatClampNeg)) hx hb (hR.arr hc rfl) ((wf.2.2.1 23 .byte rfl).1 _ _) (fun q => by cases q) (by rw [arrV_size]; exact i1) (by rw [arrV_read _ _ i2]; rfl) rfl rfl hd hk
  · obtain ⟨q1, q2⟩ := ro_at hR hc (by omega) (by omega)
    obtain ⟨q3, q4⟩ := roK_31 q2
    obtain ⟨b, rfl⟩ : ∃ b, a = 13 + b := ⟨a - 13, by omega⟩
    have hi : b < 13 := by omega
    obtain ⟨aK, aV, e1, e2, e3⟩ := wf.2.2.2.1 b hi
    have hT := (e3.1 0 (by decide)).2.2.2
    have e5 : cad N0 ro (13 + b) = aV 0 := by unfold cad; rw [if_pos q1, e2]
    show W p l e R s m args below meth c H locs (msz μ - z0) (msl μ - y0) Q (F0 m pc Ls (.int i :: .ref (cad N0 ro (13 + b)) :: st.map (cv (cad N0 ro) z)))
    rw [e5]
    rw [(hR.2.2.1.1 b hi).2.2.1] at i1
    refine va_tb hx hb hT hS i1 (v := .int (gI μ (13 + b) i.toNatClampNeg)) ?_ hd hk
    rw [(hR.2.2.1.1 b hi).2.2.2]
    rfl
theorem s_laload  (cx : Cx p R s m args meth c N0 G ro z xs L t d z0 y0 μ9) (ok : okI t (pc, .laload, len, as, ws) = true) (hK : ∀ ls st μ, K ls st μ = some (r, μ9) → Wk p l e R s m args below meth c Q N0 G ro z xs L t.2.2.1 z0 y0 μ9 (pc + len) ls st μ) (hJ : ∀ b ls st μ, J b ls st μ = some (r, μ9) → Wk p l e R s m args below meth c Q N0 G ro z xs L t.2.2.1 z0 y0 μ9 (bpc t b) ls st μ) (h : x1 C J (.laload) as ls st μ K = some (r, μ9)) : Wk p l e R s m args below meth c Q N0 G ro z xs L t.2.2.1 z0 y0 μ9 pc ls st μ := by
  obtain ⟨hx, hb, hml, hown, hts, hmn, wf, hfr, hlo, hce, hsl⟩ := cx
  unfold okI at ok
  dsimp only at ok
  obtain ⟨hd, ok3⟩ := and2 ok
  have hd := of_decide_eq_true hd
  obtain rfl : len = 1 := Nat.eq_of_beq_eq_true ok3
  obtain ⟨i, st, rfl, h1⟩ := ppI_inv h
  obtain ⟨a, st, rfl, h2⟩ := ppR_inv h1
  obtain ⟨hc0, h3⟩ := gd_inv h2
  obtain ⟨hc, hin⟩ := and2 hc0
  obtain ⟨i1, i2, i3⟩ := inb_in hin
  obtain ⟨hm, hk⟩ := hK _ _ _ h3
  refine ⟨hm, fun H locs Ls hR hS hL g1 g2 => ?_⟩
  have hk := hk H locs Ls hR hS hL g1 g2
  have hc : shp μ a = 21 := by simpa using cin_mem hc
  exact W.lald (v := .long (gL μ a i.toNatClampNeg)) hx hb (hR.arr hc rfl) ((wf.2.2.1 21 .long rfl).1 _ _) (fun q => by cases q) (by rw [arrV_size]; exact i1) (by rw [arrV_read _ _ i2]; rfl) rfl rfl hd hk
theorem s_aaload  (cx : Cx p R s m args meth c N0 G ro z xs L t d z0 y0 μ9) (ok : okI t (pc, .aaload, len, as, ws) = true) (hK : ∀ ls st μ, K ls st μ = some (r, μ9) → Wk p l e R s m args below meth c Q N0 G ro z xs L t.2.2.1 z0 y0 μ9 (pc + len) ls st μ) (hJ : ∀ b ls st μ, J b ls st μ = some (r, μ9) → Wk p l e R s m args below meth c Q N0 G ro z xs L t.2.2.1 z0 y0 μ9 (bpc t b) ls st μ) (h : x1 C J (.aaload) as ls st μ K = some (r, μ9)) : Wk p l e R s m args below meth c Q N0 G ro z xs L t.2.2.1 z0 y0 μ9 pc ls st μ := by
  obtain ⟨hx, hb, hml, hown, hts, hmn, wf, hfr, hlo, hce, hsl⟩ := cx
  unfold okI at ok
  dsimp only at ok
  obtain ⟨hd, ok3⟩ := and2 ok
  have hd := of_decide_eq_true hd
  obtain rfl : len = 1 := Nat.eq_of_beq_eq_true ok3
  obtain ⟨i, st, rfl, h1⟩ := ppI_inv h
  obtain ⟨a, st, rfl, h2⟩ := ppR_inv h1
  obtain ⟨hc0, h3⟩ := gd_inv h2
  obtain ⟨hc, hin⟩ := and2 hc0
  obtain ⟨i1, i2, i3⟩ := inb_in hin
  obtain ⟨hm, hk⟩ := hK _ _ _ h3
  refine ⟨hm, fun H locs Ls hR hS hL g1 g2 => ?_⟩
  have hk := hk H locs Ls hR hS hL g1 g2
  rw [List.map_cons, cv_rv] at hk
  have hc := cin_mem hc
  simp only [List.mem_cons, List.not_mem_nil, or_false] at hc
  rcases hc with hc | hc
  · exact W.aald (v := va_rf ((gR μ a i.toNatClampNeg).map (cad N0 ro))) (ty := .object "TrueHeard$Clause") hx hb (hR.arr hc rfl) ((wf.2.2.1 24 _ rfl).1 _ _) rfl (fun q => by cases q) (by rw [arrV_size]; exact i1) (by rw [arrV_read _ _ i2]; rfl) rfl rfl hd hk
  · exact W.aald (v := va_rf ((gR μ a i.toNatClampNeg).map (cad N0 ro))) (ty := .object "TrueHeard$Runner") hx hb (hR.arr hc rfl) ((wf.2.2.1 25 _ rfl).1 _ _) rfl (fun q => by cases q) (by rw [arrV_size]; exact i1) (by rw [arrV_read _ _ i2]; rfl) rfl rfl hd hk
theorem s_iastore  (cx : Cx p R s m args meth c N0 G ro z xs L t d z0 y0 μ9) (ok : okI t (pc, .iastore, len, as, ws) = true) (hK : ∀ ls st μ, K ls st μ = some (r, μ9) → Wk p l e R s m args below meth c Q N0 G ro z xs L t.2.2.1 z0 y0 μ9 (pc + len) ls st μ) (hJ : ∀ b ls st μ, J b ls st μ = some (r, μ9) → Wk p l e R s m args below meth c Q N0 G ro z xs L t.2.2.1 z0 y0 μ9 (bpc t b) ls st μ) (h : x1 C J (.iastore) as ls st μ K = some (r, μ9)) : Wk p l e R s m args below meth c Q N0 G ro z xs L t.2.2.1 z0 y0 μ9 pc ls st μ := by
  obtain ⟨hx, hb, hml, hown, hts, hmn, wf, hfr, hlo, hce, hsl⟩ := cx
  unfold okI at ok
  dsimp only at ok
  obtain ⟨hd, ok3⟩ := and2 ok
  have hd := of_decide_eq_true hd
  obtain rfl : len = 1 := Nat.eq_of_beq_eq_true ok3
  obtain ⟨x, st, rfl, h0⟩ := ppI_inv h
  obtain ⟨i, st, rfl, h1⟩ := ppI_inv h0
  obtain ⟨a, st, rfl, h2⟩ := ppR_inv h1
  obtain ⟨hc0, h3⟩ := gd_inv h2
  obtain ⟨hc, hin⟩ := and2 hc0
  obtain ⟨i1, i2, i3⟩ := inb_in hin
  obtain ⟨hm, hk⟩ := hK _ _ _ h3
  refine ⟨mle_K hm (Nat.le_refl _) (Nat.le_refl _), fun H locs Ls hR hS hL g1 g2 => ?_⟩
  have hc : shp μ a = 20 := by simpa using cin_mem hc
  have ha := hR.at (q := a) (by omega)
  refine W.iast hx hb (hR.arr hc rfl) ((wf.2.2.1 20 .int rfl).1 _ _) (fun q => by cases q) (by rw [arrV_size]; exact i1) rfl rfl hd fun H1 e1 e2 e3 => ?_
  rw [arrV_store] at e1
  refine hk H1 _ Ls (hR.upd (μ' := sI μ a i.toNatClampNeg x) ha.1 (fun _ => rfl) (fun _ => rfl) rfl (fun q j hq => if_neg (fun q2 => hq q2.1)) (fun _ _ _ => rfl) (fun _ _ _ => rfl) (cell_arr (ty := .int) (k := 20) hc rfl rfl (fun j => ?_) e1) e2 e3) (hS.put e2 e3 (cad_ge ha.1)) hL g1 g2
  rw [updV_if]
  show Value.int (gI (sI μ a i.toNatClampNeg x) a j) = _
  by_cases hj : j = i.toNatClampNeg
  · rw [if_pos hj, show gI (sI μ a i.toNatClampNeg x) a j = x from if_pos ⟨rfl, hj⟩]
  · rw [if_neg hj, show gI (sI μ a i.toNatClampNeg x) a j = gI μ a j from if_neg (fun q => hj q.2)]
    rfl
theorem s_lastore  (cx : Cx p R s m args meth c N0 G ro z xs L t d z0 y0 μ9) (ok : okI t (pc, .lastore, len, as, ws) = true) (hK : ∀ ls st μ, K ls st μ = some (r, μ9) → Wk p l e R s m args below meth c Q N0 G ro z xs L t.2.2.1 z0 y0 μ9 (pc + len) ls st μ) (hJ : ∀ b ls st μ, J b ls st μ = some (r, μ9) → Wk p l e R s m args below meth c Q N0 G ro z xs L t.2.2.1 z0 y0 μ9 (bpc t b) ls st μ) (h : x1 C J (.lastore) as ls st μ K = some (r, μ9)) : Wk p l e R s m args below meth c Q N0 G ro z xs L t.2.2.1 z0 y0 μ9 pc ls st μ := by
  obtain ⟨hx, hb, hml, hown, hts, hmn, wf, hfr, hlo, hce, hsl⟩ := cx
  unfold okI at ok
  dsimp only at ok
  obtain ⟨hd, ok3⟩ := and2 ok
  have hd := of_decide_eq_true hd
  obtain rfl : len = 1 := Nat.eq_of_beq_eq_true ok3
  obtain ⟨x, st, rfl, h0⟩ := ppL_inv h
  obtain ⟨i, st, rfl, h1⟩ := ppI_inv h0
  obtain ⟨a, st, rfl, h2⟩ := ppR_inv h1
  obtain ⟨hc0, h3⟩ := gd_inv h2
  obtain ⟨hc, hin⟩ := and2 hc0
  obtain ⟨i1, i2, i3⟩ := inb_in hin
  obtain ⟨hm, hk⟩ := hK _ _ _ h3
  refine ⟨mle_K hm (Nat.le_refl _) (Nat.le_refl _), fun H locs Ls hR hS hL g1 g2 => ?_⟩
  have hc : shp μ a = 21 := by simpa using cin_mem hc
  have ha := hR.at (q := a) (by omega)
  refine W.last hx hb (hR.arr hc rfl) ((wf.2.2.1 21 .long rfl).1 _ _) (fun q => by cases q) (by rw [arrV_size]; exact i1) rfl rfl hd fun H1 e1 e2 e3 => ?_
  rw [arrV_store] at e1
  refine hk H1 _ Ls (hR.upd (μ' := sL μ a i.toNatClampNeg x) ha.1 (fun _ => rfl) (fun _ => rfl) rfl (fun _ _ _ => rfl) (fun q j hq => if_neg (fun q2 => hq q2.1)) (fun _ _ _ => rfl) (cell_arr (ty := .long) (k := 21) hc rfl rfl (fun j => ?_) e1) e2 e3) (hS.put e2 e3 (cad_ge ha.1)) hL g1 g2
  rw [updV_if]
  show Value.long (gL (sL μ a i.toNatClampNeg x) a j) = _
  by_cases hj : j = i.toNatClampNeg
  · rw [if_pos hj, show gL (sL μ a i.toNatClampNeg x) a j = x from if_pos ⟨rfl, hj⟩]
  · rw [if_neg hj, show gL (sL μ a i.toNatClampNeg x) a j = gL μ a j from if_neg (fun q => hj q.2)]
    rfl
theorem s_bastore  (cx : Cx p R s m args meth c N0 G ro z xs L t d z0 y0 μ9) (ok : okI t (pc, .bastore, len, as, ws) = true) (hK : ∀ ls st μ, K ls st μ = some (r, μ9) → Wk p l e R s m args below meth c Q N0 G ro z xs L t.2.2.1 z0 y0 μ9 (pc + len) ls st μ) (hJ : ∀ b ls st μ, J b ls st μ = some (r, μ9) → Wk p l e R s m args below meth c Q N0 G ro z xs L t.2.2.1 z0 y0 μ9 (bpc t b) ls st μ) (h : x1 C J (.bastore) as ls st μ K = some (r, μ9)) : Wk p l e R s m args below meth c Q N0 G ro z xs L t.2.2.1 z0 y0 μ9 pc ls st μ := by
  obtain ⟨hx, hb, hml, hown, hts, hmn, wf, hfr, hlo, hce, hsl⟩ := cx
  unfold okI at ok
  dsimp only at ok
  obtain ⟨hd, ok3⟩ := and2 ok
  have hd := of_decide_eq_true hd
  obtain rfl : len = 1 := Nat.eq_of_beq_eq_true ok3
  have has : as = [0] ∨ as = [1] := by
    unfold x1 at h
    dsimp only at h
    split at h
    · exact Or.inl rfl
    · exact Or.inr rfl
    · cases h
  rcases has with rfl | rfl
  · obtain ⟨x, st, rfl, h0⟩ := ppI_inv h
    obtain ⟨i, st, rfl, h1⟩ := ppI_inv h0
    obtain ⟨a, st, rfl, h2⟩ := ppR_inv h1
    obtain ⟨hc0, h3⟩ := gd_inv h2
    obtain ⟨hc1, hb01⟩ := and2 hc0
    obtain ⟨hc, hin⟩ := and2 hc1
    obtain ⟨i1, i2, i3⟩ := inb_in hin
    obtain ⟨hm, hk⟩ := hK _ _ _ h3
    refine ⟨mle_K hm (Nat.le_refl _) (Nat.le_refl _), fun H locs Ls hR hS hL g1 g2 => ?_⟩
    have hc : shp μ a = 22 := by simpa using cin_mem hc
    have ha := hR.at (q := a) (by omega)
    refine W.zast hx hb (hR.arr hc rfl) ((wf.2.2.1 22 .boolean rfl).1 _ _) (fun q => by cases q) (by rw [arrV_size]; exact i1) rfl rfl hd fun H1 e1 e2 e3 => ?_
    rw [(bool_num hb01).1, arrV_store] at e1
    refine hk H1 _ Ls (hR.upd (μ' := sI μ a i.toNatClampNeg x) ha.1 (fun _ => rfl) (fun _ => rfl) rfl (fun q j hq => if_neg (fun q2 => hq q2.1)) (fun _ _ _ => rfl) (fun _ _ _ => rfl) (cell_arr (ty := .boolean) (k := 22) hc rfl rfl (fun j => ?_) e1) e2 e3) (hS.put e2 e3 (cad_ge ha.1)) hL g1 g2
    rw [updV_if]
    show Value.int (gI (sI μ a i.toNatClampNeg x) a j) = _
    by_cases hj : j = i.toNatClampNeg
    · rw [if_pos hj, show gI (sI μ a i.toNatClampNeg x) a j = x from if_pos ⟨rfl, hj⟩]
    · rw [if_neg hj, show gI (sI μ a i.toNatClampNeg x) a j = gI μ a j from if_neg (fun q => hj q.2)]
      rfl
  · obtain ⟨x, st, rfl, h0⟩ := ppI_inv h
    obtain ⟨i, st, rfl, h1⟩ := ppI_inv h0
    obtain ⟨a, st, rfl, h2⟩ := ppR_inv h1
    obtain ⟨hc0, h3⟩ := gd_inv h2
    obtain ⟨hc, hin⟩ := and2 hc0
    obtain ⟨i1, i2, i3⟩ := inb_in hin
    obtain ⟨hm, hk⟩ := hK _ _ _ h3
    refine ⟨mle_K hm (Nat.le_refl _) (Nat.le_refl _), fun H locs Ls hR hS hL g1 g2 => ?_⟩
    have hc : shp μ a = 23 := by simpa using cin_mem hc
    have ha := hR.at (q := a) (by omega)
    refine W.bast hx hb (hR.arr hc rfl) ((wf.2.2.1 23 .byte rfl).1 _ _) (fun q => by cases q) (by rw [arrV_size]; exact i1) rfl rfl hd fun H1 e1 e2 e3 => ?_
    rw [narrow_byte, arrV_store] at e1
    refine hk H1 _ Ls (hR.upd (μ' := sI μ a i.toNatClampNeg x.toInt8.toInt32) ha.1 (fun _ => rfl) (fun _ => rfl) rfl (fun q j hq => if_neg (fun q2 => hq q2.1)) (fun _ _ _ => rfl) (fun _ _ _ => rfl) (cell_arr (ty := .byte) (k := 23) hc rfl rfl (fun j => ?_) e1) e2 e3) (hS.put e2 e3 (cad_ge ha.1)) hL g1 g2
    rw [updV_if]
    show Value.int (gI (sI μ a i.toNatClampNeg x.toInt8.toInt32) a j) = _
    by_cases hj : j = i.toNatClampNeg
    · rw [if_pos hj, show gI (sI μ a i.toNatClampNeg x.toInt8.toInt32) a j = x.toInt8.toInt32 from if_pos ⟨rfl, hj⟩]
    · rw [if_neg hj, show gI (sI μ a i.toNatClampNeg x.toInt8.toInt32) a j = gI μ a j from if_neg (fun q => hj q.2)]
      rfl
end SIM4
