/-! FIELDS, STATICS, ARRAYS, NEW CELLS: the instructions -/
theorem bool_num {x : Int32} (h : b01 x = true) : narrow .boolean (.int x) = .int x ∧ fits .boolean (.int x) = true := by
  rcases b01_or h with rfl | rfl <;> exact ⟨by decide, by decide⟩
theorem mle_K {μ μ1 μ9 : MM} (h : mle μ1 μ9) (h1 : msz μ ≤ msz μ1) (h2 : msl μ ≤ msl μ1) : mle μ μ9 := ⟨Nat.le_trans h1 h.1, Nat.le_trans h2 h.2⟩
section SIM3
variable {p : Program} {l : Launch} {e : Env} {R : Room} {s : State} {m : MethodId} {args : Array Value} {below : List Frame} {meth : Method} {c : Code} {Q : State → Prop}
variable {N0 : Nat} {G : GG} {ro : Nat → Nat} {z : Value} {xs : Nat → Int32} {L : Nat} {t : MT} {z0 y0 d : Nat} {r : Option Value} {μ9 : MM}
variable {C : Nat → List Value → MM → Rs} {J : Nat → LV → List Value → MM → Rs} {K : LV → List Value → MM → Rs} {pc len : Nat} {as ws : List Nat} {ls : LV} {st : List Value} {μ : MM}
theorem s_getfield {idx : Nat} (cx : Cx p R s m args meth c N0 G ro z xs L t d z0 y0 μ9) (ok : okI t (pc, .getfield idx, len, as, ws) = true) (hK : ∀ ls st μ, K ls st μ = some (r, μ9) → Wk p l e R s m args below meth c Q N0 G ro z xs L t.2.2.1 z0 y0 μ9 (pc + len) ls st μ) (hJ : ∀ b ls st μ, J b ls st μ = some (r, μ9) → Wk p l e R s m args below meth c Q N0 G ro z xs L t.2.2.1 z0 y0 μ9 (bpc t b) ls st μ) (h : x1 C J (.getfield idx) as ls st μ K = some (r, μ9)) : Wk p l e R s m args below meth c Q N0 G ro z xs L t.2.2.1 z0 y0 μ9 pc ls st μ := by
  have cx0 := cx
  obtain ⟨hx, hb, hml, hown, hts, hmn, wf, hfr, hlo, hce, hsl⟩ := cx
  unfold okI at ok
  dsimp only at ok
  obtain ⟨hd, ok3⟩ := and2 ok
  have hd := of_decide_eq_true hd
  obtain ⟨ok4, ok5⟩ := and2 ok3
  obtain rfl : len = 3 := Nat.eq_of_beq_eq_true ok4
  split at ok5
  · next p1 =>
    obtain ⟨a, st, rfl, h1⟩ := ppR_inv h
    obtain ⟨hc, h2⟩ := gd_inv h1
    obtain ⟨hm, hk⟩ := hK _ _ _ h2
    refine ⟨hm, fun H locs Ls hR hS hL g1 g2 => ?_⟩
    have hs : shp μ a = 30 := by simpa using cin_mem hc
    obtain ⟨q1, q2⟩ := shOK_ro (hR.2.1 a) (by omega) (by omega)
    have ha : a < 13 := by
      unfold roK at q2
      split at q2
      · omega
      · split at q2
        · omega
        · split at q2 <;> omega
    have ha2 : 13 + a < 28 := Nat.lt_of_lt_of_le (Nat.add_lt_add_left ha 13) (Nat.le_of_ble_eq_true rfl)
    obtain ⟨aK, aV, e1, e2, e3⟩ := wf.2.2.2.1 a ha
    have hk2 := hk H locs Ls hR hS hL g1 g2
    rw [List.map_cons, cv_rv, (hR.2.2.1.1 a ha).1] at hk2
    have e4 : cad N0 ro (13 + a) = aV 0 := by unfold cad; rw [if_pos ha2, e2]
    have e5 : cad N0 ro a = aK 0 := by unfold cad; rw [if_pos (by omega), e1]
    have hk3 : W p l e R s m args below meth c H locs (msz μ - z0) (msl μ - y0) Q (F0 m (pc + 3) Ls (.ref (aV 0) :: st.map (cv (cad N0 ro) z))) := by rw [← e4]; exact hk2
    show W p l e R s m args below meth c H locs (msz μ - z0) (msl μ - y0) Q (F0 m pc Ls (.ref (cad N0 ro a) :: st.map (cv (cad N0 ro) z)))
    rw [e5]
    exact vk_getf hx hb ((e3.1 0 (by decide)).2.2.1) hS hown (hts _ (wis_g ok5 rfl)) (fun x hx => hx) hd hk3
  · next p1 =>
    obtain ⟨a, st, rfl, h1⟩ := ppR_inv h
    obtain ⟨hc, h2⟩ := gd_inv h1
    obtain ⟨hm, hk⟩ := hK _ _ _ h2
    refine ⟨hm, fun H locs Ls hR hS hL g1 g2 => ?_⟩
    have hs : shp μ a = 30 := by simpa using cin_mem hc
    obtain ⟨q1, q2⟩ := shOK_ro (hR.2.1 a) (by omega) (by omega)
    have ha : a < 13 := by
      unfold roK at q2
      split at q2
      · omega
      · split at q2
        · omega
        · split at q2 <;> omega
    have ha2 : 13 + a < 28 := Nat.lt_of_lt_of_le (Nat.add_lt_add_left ha 13) (Nat.le_of_ble_eq_true rfl)
    obtain ⟨aK, aV, e1, e2, e3⟩ := wf.2.2.2.1 a ha
    have hk2 := hk H locs Ls hR hS hL g1 g2
    rw [(hR.2.2.1.1 a ha).2.1] at hk2
    have e5 : cad N0 ro a = aK 0 := by unfold cad; rw [if_pos (by omega), e1]
    show W p l e R s m args below meth c H locs (msz μ - z0) (msl μ - y0) Q (F0 m pc Ls (.ref (cad N0 ro a) :: st.map (cv (cad N0 ro) z)))
    rw [e5]
    exact vk_getf hx hb ((e3.1 0 (by decide)).2.1) hS hown (hts _ (wis_g ok5 rfl)) (fun x hx => hx) hd hk2
  · next k tk cs pf ps hn1 hn2 =>
    have gen : ∀ a, cin cs (shp μ a) = true → shp μ a < 13 ∧ okF t.1.cls idx k tk pf ps (shp μ a) none = true := by
      intro a hc
      obtain ⟨q1, q2⟩ := and2 (List.all_eq_true.mp ok5 _ (cin_mem hc))
      exact ⟨by have := Nat.le_of_ble_eq_true q1; omega, q2⟩
    match tk, ok5, gen, h with
    | 0, ok5, gen, h =>
      obtain ⟨a, st, rfl, h1⟩ := ppR_inv h
      obtain ⟨hc, h2⟩ := gd_inv h1
      obtain ⟨hm, hk⟩ := hK _ _ _ h2
      exact ⟨hm, fun H locs Ls hR hS hL g1 g2 => w_get cx0 hR (gen a hc).1 (gen a hc).2 hd (hk H locs Ls hR hS hL g1 g2)⟩
    | 1, ok5, gen, h =>
      obtain ⟨a, st, rfl, h1⟩ := ppR_inv h
      obtain ⟨hc, h2⟩ := gd_inv h1
      obtain ⟨hm, hk⟩ := hK _ _ _ h2
      exact ⟨hm, fun H locs Ls hR hS hL g1 g2 => w_get cx0 hR (gen a hc).1 (gen a hc).2 hd (hk H locs Ls hR hS hL g1 g2)⟩
    | 2, ok5, gen, h =>
      obtain ⟨a, st, rfl, h1⟩ := ppR_inv h
      obtain ⟨hc, h2⟩ := gd_inv h1
      obtain ⟨hm, hk⟩ := hK _ _ _ h2
      refine ⟨hm, fun H locs Ls hR hS hL g1 g2 => w_get cx0 hR (gen a hc).1 (gen a hc).2 hd ?_⟩
      have hk2 := hk H locs Ls hR hS hL g1 g2
      rw [List.map_cons, cv_rv] at hk2
      exact hk2
    | n + 3, ok5, gen, h => cases h
  · cases ok5
theorem s_putfield {idx : Nat} (cx : Cx p R s m args meth c N0 G ro z xs L t d z0 y0 μ9) (ok : okI t (pc, .putfield idx, len, as, ws) = true) (hK : ∀ ls st μ, K ls st μ = some (r, μ9) → Wk p l e R s m args below meth c Q N0 G ro z xs L t.2.2.1 z0 y0 μ9 (pc + len) ls st μ) (hJ : ∀ b ls st μ, J b ls st μ = some (r, μ9) → Wk p l e R s m args below meth c Q N0 G ro z xs L t.2.2.1 z0 y0 μ9 (bpc t b) ls st μ) (h : x1 C J (.putfield idx) as ls st μ K = some (r, μ9)) : Wk p l e R s m args below meth c Q N0 G ro z xs L t.2.2.1 z0 y0 μ9 pc ls st μ := by
  have cx0 := cx
  obtain ⟨hx, hb, hml, hown, hts, hmn, wf, hfr, hlo, hce, hsl⟩ := cx
  unfold okI at ok
  dsimp only at ok
  obtain ⟨hd, ok3⟩ := and2 ok
  have hd := of_decide_eq_true hd
  obtain ⟨ok4, ok5⟩ := and2 ok3
  obtain rfl : len = 3 := Nat.eq_of_beq_eq_true ok4
  split at ok5
  · next k tk cs pf ps =>
    have gen : ∀ a, cin cs (shp μ a) = true → shp μ a < 13 ∧ okF t.1.cls idx k tk pf ps (shp μ a) (some t.1.name) = true := by
      intro a hc
      obtain ⟨q1, q2⟩ := and2 (List.all_eq_true.mp ok5 _ (cin_mem hc))
      exact ⟨by have := Nat.le_of_ble_eq_true q1; omega, q2⟩
    obtain ⟨v, st, rfl, h0⟩ := p1_inv h
    match tk, ok5, gen, h0 with
    | 0, ok5, gen, h0 =>
      obtain ⟨x, rfl, h0⟩ := asI_inv h0
      obtain ⟨a, st, rfl, h1⟩ := ppR_inv h0
      obtain ⟨hc, h2⟩ := gd_inv h1
      obtain ⟨hm, hk⟩ := hK _ _ _ h2
      refine ⟨mle_K hm (Nat.le_refl _) (Nat.le_refl _), fun H locs Ls hR hS hL g1 g2 => ?_⟩
      refine w_put (v := .int x) (μ' := sI μ a k x) cx0 hR hS (gen a hc).1 (gen a hc).2 hd (fun dd hdd => ⟨_, fkd_0 hdd, rfl, rfl⟩) (fun _ => rfl) (fun _ => rfl) rfl (fun q j hq => if_neg (fun q2 => hq q2.1)) (fun _ _ _ => rfl) (fun _ _ _ => rfl) (fun j dd hj => ?_) (fun dd hdd => ?_) (fun H1 locs1 hR1 hS1 => hk H1 locs1 Ls hR1 hS1 hL g1 g2)
      · unfold fvl fvk
        rw [show gI (sI μ a k x) a j = gI μ a j from if_neg (fun q2 => hj q2.2)]
        rfl
      · unfold fvl fvk
        rw [hdd, show gI (sI μ a k x) a k = x from if_pos ⟨rfl, rfl⟩]
        try rfl
    | 1, ok5, gen, h0 =>
      obtain ⟨x, rfl, h0⟩ := asI_inv h0
      obtain ⟨a, st, rfl, h1⟩ := ppR_inv h0
      obtain ⟨hc0, h2⟩ := gd_inv h1
      obtain ⟨hc, hb01⟩ := and2 hc0
      obtain ⟨hm, hk⟩ := hK _ _ _ h2
      refine ⟨mle_K hm (Nat.le_refl _) (Nat.le_refl _), fun H locs Ls hR hS hL g1 g2 => ?_⟩
      refine w_put (v := .int x) (μ' := sI μ a k x) cx0 hR hS (gen a hc).1 (gen a hc).2 hd (fun dd hdd => ⟨_, fkd_1 hdd, (bool_num hb01).1, (bool_num hb01).2⟩) (fun _ => rfl) (fun _ => rfl) rfl (fun q j hq => if_neg (fun q2 => hq q2.1)) (fun _ _ _ => rfl) (fun _ _ _ => rfl) (fun j dd hj => ?_) (fun dd hdd => ?_) (fun H1 locs1 hR1 hS1 => hk H1 locs1 Ls hR1 hS1 hL g1 g2)
      · unfold fvl fvk
        rw [show gI (sI μ a k x) a j = gI μ a j from if_neg (fun q2 => hj q2.2)]
        rfl
      · unfold fvl fvk
        rw [hdd, show gI (sI μ a k x) a k = x from if_pos ⟨rfl, rfl⟩]
        try rfl
    | 2, ok5, gen, h0 =>
      rcases asN_inv h0 with ⟨rfl, h0⟩ | ⟨x, rfl, h0⟩
      · obtain ⟨a, st, rfl, h1⟩ := ppR_inv h0
        obtain ⟨hc, h2⟩ := gd_inv h1
        obtain ⟨hm, hk⟩ := hK _ _ _ h2
        refine ⟨mle_K hm (Nat.le_refl _) (Nat.le_refl _), fun H locs Ls hR hS hL g1 g2 => ?_⟩
        refine w_put (v := .null) (μ' := sR μ a k none) cx0 hR hS (gen a hc).1 (gen a hc).2 hd (fun dd hdd => ?_) (fun _ => rfl) (fun _ => rfl) rfl (fun _ _ _ => rfl) (fun _ _ _ => rfl) (fun q j hq => if_neg (fun q2 => hq q2.1)) (fun j dd hj => ?_) (fun dd hdd => ?_) (fun H1 locs1 hR1 hS1 => hk H1 locs1 Ls hR1 hS1 hL g1 g2)
        · obtain ⟨ty, e1, e2⟩ := fkd_2 hdd
          exact ⟨ty, e1, e2 _ (Or.inl rfl)⟩
        · unfold fvl fvk
          rw [show gR (sR μ a k none) a j = gR μ a j from if_neg (fun q2 => hj q2.2)]
          rfl
        · unfold fvl fvk
          rw [hdd, show gR (sR μ a k none) a k = none from if_pos ⟨rfl, rfl⟩]
          try rfl
      · obtain ⟨a, st, rfl, h1⟩ := ppR_inv h0
        obtain ⟨hc, h2⟩ := gd_inv h1
        obtain ⟨hm, hk⟩ := hK _ _ _ h2
        refine ⟨mle_K hm (Nat.le_refl _) (Nat.le_refl _), fun H locs Ls hR hS hL g1 g2 => ?_⟩
        refine w_put (v := .ref (cad N0 ro x)) (μ' := sR μ a k (some x)) cx0 hR hS (gen a hc).1 (gen a hc).2 hd (fun dd hdd => ?_) (fun _ => rfl) (fun _ => rfl) rfl (fun _ _ _ => rfl) (fun _ _ _ => rfl) (fun q j hq => if_neg (fun q2 => hq q2.1)) (fun j dd hj => ?_) (fun dd hdd => ?_) (fun H1 locs1 hR1 hS1 => hk H1 locs1 Ls hR1 hS1 hL g1 g2)
        · obtain ⟨ty, e1, e2⟩ := fkd_2 hdd
          exact ⟨ty, e1, e2 _ (Or.inr ⟨_, rfl⟩)⟩
        · unfold fvl fvk
          rw [show gR (sR μ a k (some x)) a j = gR μ a j from if_neg (fun q2 => hj q2.2)]
          rfl
        · unfold fvl fvk
          rw [hdd, show gR (sR μ a k (some x)) a k = some x from if_pos ⟨rfl, rfl⟩]
          try rfl
    | n + 3, ok5, gen, h0 => cases h0
  · cases ok5
theorem s_getstatic {idx : Nat} (cx : Cx p R s m args meth c N0 G ro z xs L t d z0 y0 μ9) (ok : okI t (pc, .getstatic idx, len, as, ws) = true) (hK : ∀ ls st μ, K ls st μ = some (r, μ9) → Wk p l e R s m args below meth c Q N0 G ro z xs L t.2.2.1 z0 y0 μ9 (pc + len) ls st μ) (hJ : ∀ b ls st μ, J b ls st μ = some (r, μ9) → Wk p l e R s m args below meth c Q N0 G ro z xs L t.2.2.1 z0 y0 μ9 (bpc t b) ls st μ) (h : x1 C J (.getstatic idx) as ls st μ K = some (r, μ9)) : Wk p l e R s m args below meth c Q N0 G ro z xs L t.2.2.1 z0 y0 μ9 pc ls st μ := by
  obtain ⟨hx, hb, hml, hown, hts, hmn, wf, hfr, hlo, hce, hsl⟩ := cx
  unfold okI at ok
  dsimp only at ok
  obtain ⟨hd, ok3⟩ := and2 ok
  have hd := of_decide_eq_true hd
  obtain ⟨ok4, ok5⟩ := and2 ok3
  obtain rfl : len = 3 := Nat.eq_of_beq_eq_true ok4
  split at ok5
  · next p1 =>
    obtain ⟨hm, hk⟩ := hK _ _ _ h
    exact ⟨hm, fun H locs Ls hR hS hL g1 g2 => va_gets hx hb wf.2.2.2.2.2.1.1 hS hown (hts _ (wis_g ok5 rfl)) (fun x hx => hx) hd (hk H locs Ls hR hS hL g1 g2)⟩
  · next p1 =>
    obtain ⟨hm, hk⟩ := hK _ _ _ h
    exact ⟨hm, fun H locs Ls hR hS hL g1 g2 => va_gets hx hb wf.2.2.2.2.2.1.2 hS hown (hts _ (wis_g ok5 rfl)) (fun x hx => hx) hd (hk H locs Ls hR hS hL g1 g2)⟩
  · cases ok5
theorem s_ldc2 {idx : Nat} (cx : Cx p R s m args meth c N0 G ro z xs L t d z0 y0 μ9) (ok : okI t (pc, .ldc2_w idx, len, as, ws) = true) (hK : ∀ ls st μ, K ls st μ = some (r, μ9) → Wk p l e R s m args below meth c Q N0 G ro z xs L t.2.2.1 z0 y0 μ9 (pc + len) ls st μ) (hJ : ∀ b ls st μ, J b ls st μ = some (r, μ9) → Wk p l e R s m args below meth c Q N0 G ro z xs L t.2.2.1 z0 y0 μ9 (bpc t b) ls st μ) (h : x1 C J (.ldc2_w idx) as ls st μ K = some (r, μ9)) : Wk p l e R s m args below meth c Q N0 G ro z xs L t.2.2.1 z0 y0 μ9 pc ls st μ := by
  obtain ⟨hx, hb, hml, hown, hts, hmn, wf, hfr, hlo, hce, hsl⟩ := cx
  unfold okI at ok
  dsimp only at ok
  obtain ⟨hd, ok3⟩ := and2 ok
  have hd := of_decide_eq_true hd
  obtain ⟨ok4, ok5⟩ := and2 ok3
  obtain rfl : len = 3 := Nat.eq_of_beq_eq_true ok4
  split at ok5
  · obtain ⟨hm, hk⟩ := hK _ _ _ h
    exact ⟨hm, fun H locs Ls hR hS hL g1 g2 => lv_ldc2 hx hb hown (hts _ (wis_g ok5 rfl)) hd (hk H locs Ls hR hS hL g1 g2)⟩
  · cases ok5
theorem s_ldcw {idx : Nat} (cx : Cx p R s m args meth c N0 G ro z xs L t d z0 y0 μ9) (ok : okI t (pc, .ldc_w idx, len, as, ws) = true) (hK : ∀ ls st μ, K ls st μ = some (r, μ9) → Wk p l e R s m args below meth c Q N0 G ro z xs L t.2.2.1 z0 y0 μ9 (pc + len) ls st μ) (hJ : ∀ b ls st μ, J b ls st μ = some (r, μ9) → Wk p l e R s m args below meth c Q N0 G ro z xs L t.2.2.1 z0 y0 μ9 (bpc t b) ls st μ) (h : x1 C J (.ldc_w idx) as ls st μ K = some (r, μ9)) : Wk p l e R s m args below meth c Q N0 G ro z xs L t.2.2.1 z0 y0 μ9 pc ls st μ := by
  obtain ⟨hx, hb, hml, hown, hts, hmn, wf, hfr, hlo, hce, hsl⟩ := cx
  unfold okI at ok
  dsimp only at ok
  obtain ⟨hd, ok3⟩ := and2 ok
  have hd := of_decide_eq_true hd
  obtain ⟨ok4, ok5⟩ := and2 ok3
  obtain rfl : len = 3 := Nat.eq_of_beq_eq_true ok4
  split at ok5
  · obtain ⟨hm, hk⟩ := hK _ _ _ h
    exact ⟨hm, fun H locs Ls hR hS hL g1 g2 => lv_ldcw hx hb hown (hts _ (wis_g ok5 rfl)) hd (hk H locs Ls hR hS hL g1 g2)⟩
  · cases ok5
theorem s_ldc {idx : Nat} (cx : Cx p R s m args meth c N0 G ro z xs L t d z0 y0 μ9) (ok : okI t (pc, .ldc idx, len, as, ws) = true) (hK : ∀ ls st μ, K ls st μ = some (r, μ9) → Wk p l e R s m args below meth c Q N0 G ro z xs L t.2.2.1 z0 y0 μ9 (pc + len) ls st μ) (hJ : ∀ b ls st μ, J b ls st μ = some (r, μ9) → Wk p l e R s m args below meth c Q N0 G ro z xs L t.2.2.1 z0 y0 μ9 (bpc t b) ls st μ) (h : x1 C J (.ldc idx) as ls st μ K = some (r, μ9)) : Wk p l e R s m args below meth c Q N0 G ro z xs L t.2.2.1 z0 y0 μ9 pc ls st μ := by
  obtain ⟨hx, hb, hml, hown, hts, hmn, wf, hfr, hlo, hce, hsl⟩ := cx
  unfold okI at ok
  dsimp only at ok
  obtain ⟨hd, ok3⟩ := and2 ok
  have hd := of_decide_eq_true hd
  obtain ⟨ok4, ok5⟩ := and2 ok3
  obtain rfl : len = 2 := Nat.eq_of_beq_eq_true ok4
  split at ok5
  · split at ok5
    · obtain ⟨hm, hk⟩ := hK _ _ _ h
      exact ⟨hm, fun H locs Ls hR hS hL g1 g2 => lv_ldc hx hb hown (hts _ (wis_g ok5 rfl)) hd (hk H locs Ls hR hS hL g1 g2)⟩
    · cases ok5
  · next i =>
    obtain ⟨hm, hk⟩ := hK _ _ _ h
    refine ⟨hm, fun H locs Ls hR hS hL g1 g2 => ?_⟩
    have e1 : strT[i]? = some (t.1.cls, idx, (strT.getD i ("", 0, "")).2.2) ∧ i < 13 := by
      obtain ⟨q1, q2⟩ := and2 ok5
      have q1 := of_decide_eq_true q1
      have q2 := of_decide_eq_true q2
      have q3 : i < strT.length := q2
      rw [List.getElem?_eq_getElem q3]
      rw [List.getD_eq_getElem?_getD, List.getElem?_eq_getElem q3] at q1 ⊢
      simp only [Option.getD_some] at q1 ⊢
      rw [← q1.1, ← q1.2]
      exact ⟨rfl, q2⟩
    have hZ := wf.2.2.2.2.1 i _ e1.1
    have e2 : cad N0 ro i = ro i := by unfold cad; rw [if_pos (by omega)]
    refine va_ldcS hx hb hown (q := ro i) hZ hd ?_
    rw [← e2]
    exact hk H locs Ls hR hS hL g1 g2
  · cases ok5
end SIM3
