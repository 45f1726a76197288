/-! STORES OF CELLS, NEW CELLS, SWITCHES -/
theorem clN_of {c : Nat} {q : vw_C} (h : vwCl[c]? = some q) : clN c = q.1 := by
  unfold clN
  rw [h]
theorem vw_some {c : Nat} (h : c < 13) : ∃ q, vwCl[c]? = some q := ⟨_, List.getElem?_eq_getElem (show c < vwCl.length from h)⟩
section SIM5
variable {p : Program} {l : Launch} {e : Env} {R : Room} {s : State} {m : MethodId} {args : Array Value} {below : List Frame} {meth : Method} {c : Code} {Q : State → Prop}
variable {N0 : Nat} {G : GG} {ro : Nat → Nat} {z : Value} {xs : Nat → Int32} {L : Nat} {t : MT} {z0 y0 d : Nat} {r : Option Value} {μ9 : MM}
variable {C : Nat → List Value → MM → Rs} {J : Nat → LV → List Value → MM → Rs} {K : LV → List Value → MM → Rs} {pc len : Nat} {as ws : List Nat} {ls : LV} {st : List Value} {μ : MM}
/-- what is known of an object's cell -/
theorem ob_cell {H : Heap} {a : Nat} (wf : WF N0 G ro z xs L s) (hR : Rep N0 G ro xs L μ H) (hc : shp μ a < 13) : ∃ cell : Cell, H[cad N0 ro a]? = some cell ∧ cell.vm = .none ∧ s.vm.findClass (clN (shp μ a)) = some cell.cls ∧ ClassAt s (clN (shp μ a)) cell.cls := by
  obtain ⟨q, hq⟩ := vw_some hc
  obtain ⟨cell, q1, q2, q3, q4⟩ := hR.obj rfl hc hq
  have h2 := (wf.2.1 _ _ hq).2
  have h3 : ClassAt s q.1 cell.cls := by rw [q2]; exact h2
  rw [clN_of hq]
  exact ⟨cell, q1, q3, h3.1, h3⟩
theorem cast_ok {E : String} {n : Nat} {cls : ClassId} (wf : WF N0 G ro z xs L s) (hE : clN n = E ∨ (clN n, E) ∈ castW) (hat : ClassAt s (clN n) cls) : ∀ comp : ClassId, s.vm.findClass E = some comp → s.vm.assignable cls comp = true := by
  intro comp hcomp
  rcases hE with rfl | hE
  · cases hat.1.symm.trans hcomp
    exact va_assign hat
  · obtain ⟨c0, t0, f1, f2, f3⟩ := Cond.castable_spec (va_Nw.use (A := #[]) rfl (wf.2.2.2.2.2.2.2.2.1 _ hE))
    cases hat.1.symm.trans f1
    cases hcomp.symm.trans f2
    exact f3
theorem w_aast {H : Heap} {locs : List Loc} {cells slots a k x : Nat} {E : String} {i : Int32} {Ls : Array Slot} {rest : List Value} (cx : Cx p R s m args meth c N0 G ro z xs L t d z0 y0 μ9) (hR : Rep N0 G ro xs L μ H) (hS : va_S (fun q => N0 ≤ q) s.heap H locs) (hs : shp μ a = k) (hk : kty k = some (.object E)) (hin : inb i (aln μ a) = true) (hx13 : shp μ x < 13) (hE : clN (shp μ x) = E ∨ (clN (shp μ x), E) ∈ castW) (hd : decode t.2.1 pc = .ok (.aastore, 1))
    (kk : ∀ (H1 : Heap) (locs1 : List Loc), Rep N0 G ro xs L (sR μ a i.toNatClampNeg (some x)) H1 → va_S (fun q => N0 ≤ q) s.heap H1 locs1 → W p l e R s m args below meth c H1 locs1 cells slots Q (F0 m (pc + 1) Ls rest)) : W p l e R s m args below meth c H locs cells slots Q (F0 m pc Ls (.ref (cad N0 ro x) :: .int i :: .ref (cad N0 ro a) :: rest)) := by
  obtain ⟨hx, hb, hml, hown, hts, hmn, wf, hfr, hlo, hce, hsl⟩ := cx
  obtain ⟨i1, i2, i3⟩ := inb_in hin
  have hk26 := kty_lt hk
  have ha := hR.at (q := a) (by omega)
  obtain ⟨cellV, g1, g2, g3, g4⟩ := ob_cell wf hR hx13
  obtain ⟨kA, comp, k1, k2, k3, -⟩ := (wf.2.2.1 k _ hk).2
  obtain ⟨kE, hkE, -⟩ := Vm.findClass_spec k3
  obtain ⟨-, kC, hkC, hkind⟩ := g4
  refine W.aast hx hb (hR.arr hs hk) (fun q h => by cases h) (fun h => by cases h) k1 k2 rfl hkE ⟨i3, by rw [arrV_size]; exact i2⟩ g1 (fun q h => by rw [g2] at h; cases h) hkC (cast_ok wf hE ⟨g3, kC, hkC, hkind⟩ _ k3) rfl rfl hd fun H1 e1 e2 e3 => ?_
  rw [arrV_store] at e1
  refine kk H1 _ (hR.upd (μ' := sR μ a i.toNatClampNeg (some x)) ha.1 (fun _ => rfl) (fun _ => rfl) rfl (fun _ _ _ => rfl) (fun _ _ _ => rfl) (fun q j hq => if_neg (fun q2 => hq q2.1)) (cell_arr (ty := .object E) (k := k) hs hk rfl (fun j => ?_) e1) e2 e3) (hS.put e2 e3 (cad_ge ha.1))
  rw [updV_if]
  show va_rf ((gR (sR μ a i.toNatClampNeg (some x)) a j).map (cad N0 ro)) = _
  by_cases hj : j = i.toNatClampNeg
  · rw [if_pos hj, show gR (sR μ a i.toNatClampNeg (some x)) a j = some x from if_pos ⟨rfl, hj⟩]
    rfl
  · rw [if_neg hj, show gR (sR μ a i.toNatClampNeg (some x)) a j = gR μ a j from if_neg (fun q => hj q.2)]
    rfl
theorem w_aastN {H : Heap} {locs : List Loc} {cells slots a k : Nat} {E : String} {i : Int32} {Ls : Array Slot} {rest : List Value} (cx : Cx p R s m args meth c N0 G ro z xs L t d z0 y0 μ9) (hR : Rep N0 G ro xs L μ H) (hS : va_S (fun q => N0 ≤ q) s.heap H locs) (hs : shp μ a = k) (hk : kty k = some (.object E)) (hin : inb i (aln μ a) = true) (hd : decode t.2.1 pc = .ok (.aastore, 1))
    (kk : ∀ (H1 : Heap) (locs1 : List Loc), Rep N0 G ro xs L (sR μ a i.toNatClampNeg none) H1 → va_S (fun q => N0 ≤ q) s.heap H1 locs1 → W p l e R s m args below meth c H1 locs1 cells slots Q (F0 m (pc + 1) Ls rest)) : W p l e R s m args below meth c H locs cells slots Q (F0 m pc Ls (.null :: .int i :: .ref (cad N0 ro a) :: rest)) := by
  obtain ⟨hx, hb, hml, hown, hts, hmn, wf, hfr, hlo, hce, hsl⟩ := cx
  obtain ⟨i1, i2, i3⟩ := inb_in hin
  have hk26 := kty_lt hk
  have ha := hR.at (q := a) (by omega)
  refine va_WaastN (C := E) hx hb (hR.arr hs hk) ((wf.2.2.1 k _ hk).1 _ _) (fun h => by cases h) (by rw [arrV_size]; exact i1) rfl rfl hd fun H1 e1 e2 e3 => ?_
  rw [arrV_store] at e1
  refine kk H1 _ (hR.upd (μ' := sR μ a i.toNatClampNeg none) ha.1 (fun _ => rfl) (fun _ => rfl) rfl (fun _ _ _ => rfl) (fun _ _ _ => rfl) (fun q j hq => if_neg (fun q2 => hq q2.1)) (cell_arr (ty := .object E) (k := k) hs hk rfl (fun j => ?_) e1) e2 e3) (hS.put e2 e3 (cad_ge ha.1))
  rw [updV_if]
  show va_rf ((gR (sR μ a i.toNatClampNeg none) a j).map (cad N0 ro)) = _
  by_cases hj : j = i.toNatClampNeg
  · rw [if_pos hj, show gR (sR μ a i.toNatClampNeg none) a j = none from if_pos ⟨rfl, hj⟩]
    rfl
  · rw [if_neg hj, show gR (sR μ a i.toNatClampNeg none) a j = gR μ a j from if_neg (fun q => hj q.2)]
    rfl
theorem s_aastore  (cx : Cx p R s m args meth c N0 G ro z xs L t d z0 y0 μ9) (ok : okI t (pc, .aastore, len, as, ws) = true) (hK : ∀ ls st μ, K ls st μ = some (r, μ9) → Wk p l e R s m args below meth c Q N0 G ro z xs L t.2.2.1 z0 y0 μ9 (pc + len) ls st μ) (hJ : ∀ b ls st μ, J b ls st μ = some (r, μ9) → Wk p l e R s m args below meth c Q N0 G ro z xs L t.2.2.1 z0 y0 μ9 (bpc t b) ls st μ) (h : x1 C J (.aastore) as ls st μ K = some (r, μ9)) : Wk p l e R s m args below meth c Q N0 G ro z xs L t.2.2.1 z0 y0 μ9 pc ls st μ := by
  have cx0 := cx
  obtain ⟨hx, hb, hml, hown, hts, hmn, wf, hfr, hlo, hce, hsl⟩ := cx
  unfold okI at ok
  dsimp only at ok
  obtain ⟨hd, ok3⟩ := and2 ok
  have hd := of_decide_eq_true hd
  obtain rfl : len = 1 := Nat.eq_of_beq_eq_true ok3
  obtain ⟨v, st, rfl, h0⟩ := p1_inv h
  obtain ⟨i, st, rfl, h1⟩ := ppI_inv h0
  obtain ⟨a, st, rfl, h2⟩ := ppR_inv h1
  rcases asN_inv h2 with ⟨rfl, h3⟩ | ⟨x, rfl, h3⟩
  · obtain ⟨hc0, h4⟩ := gd_inv h3
    obtain ⟨hc, hin⟩ := and2 hc0
    obtain ⟨hm, hk⟩ := hK _ _ _ h4
    refine ⟨mle_K hm (Nat.le_refl _) (Nat.le_refl _), fun H locs Ls hR hS hL g1 g2 => ?_⟩
    have hc := cin_mem hc
    simp only [List.mem_cons, List.not_mem_nil, or_false] at hc
    rcases hc with hc | hc
    · exact w_aastN cx0 hR hS hc rfl hin hd (fun H1 locs1 hR1 hS1 => hk H1 locs1 Ls hR1 hS1 hL g1 g2)
    · exact w_aastN cx0 hR hS hc rfl hin hd (fun H1 locs1 hR1 hS1 => hk H1 locs1 Ls hR1 hS1 hL g1 g2)
  · obtain ⟨hc0, h4⟩ := gd_inv h3
    obtain ⟨hc, hin⟩ := and2 hc0
    obtain ⟨hm, hk⟩ := hK _ _ _ h4
    refine ⟨mle_K hm (Nat.le_refl _) (Nat.le_refl _), fun H locs Ls hR hS hL g1 g2 => ?_⟩
    rcases Bool.or_eq_true_iff.mp hc with hc | hc
    · obtain ⟨c1, c2⟩ := and2 hc
      have c1 : shp μ a = 24 := by simpa using cin_mem c1
      have c2 : shp μ x = 3 := by simpa using cin_mem c2
      exact w_aast cx0 hR hS c1 rfl hin (by omega) (Or.inl (by rw [c2]; rfl)) hd (fun H1 locs1 hR1 hS1 => hk H1 locs1 Ls hR1 hS1 hL g1 g2)
    · obtain ⟨c1, c2⟩ := and2 hc
      have c1 : shp μ a = 25 := by simpa using cin_mem c1
      have c2 := cin_mem c2
      have c3 : shp μ x < 13 ∧ (clN (shp μ x) = "TrueHeard$Runner" ∨ (clN (shp μ x), "TrueHeard$Runner") ∈ castW) := by
        generalize shp μ x = w at c2 ⊢
        simp only [List.mem_cons, List.not_mem_nil, or_false] at c2
        rcases c2 with rfl | rfl | rfl | rfl | rfl | rfl | rfl <;> decide +kernel
      exact w_aast cx0 hR hS c1 rfl hin c3.1 c3.2 hd (fun H1 locs1 hR1 hS1 => hk H1 locs1 Ls hR1 hS1 hL g1 g2)
theorem s_newarray {ty : ArrayType} (cx : Cx p R s m args meth c N0 G ro z xs L t d z0 y0 μ9) (ok : okI t (pc, .newarray ty, len, as, ws) = true) (hK : ∀ ls st μ, K ls st μ = some (r, μ9) → Wk p l e R s m args below meth c Q N0 G ro z xs L t.2.2.1 z0 y0 μ9 (pc + len) ls st μ) (hJ : ∀ b ls st μ, J b ls st μ = some (r, μ9) → Wk p l e R s m args below meth c Q N0 G ro z xs L t.2.2.1 z0 y0 μ9 (bpc t b) ls st μ) (h : x1 C J (.newarray ty) as ls st μ K = some (r, μ9)) : Wk p l e R s m args below meth c Q N0 G ro z xs L t.2.2.1 z0 y0 μ9 pc ls st μ := by
  obtain ⟨hx, hb, hml, hown, hts, hmn, wf, hfr, hlo, hce, hsl⟩ := cx
  unfold okI at ok
  dsimp only at ok
  obtain ⟨hd, ok3⟩ := and2 ok
  have hd := of_decide_eq_true hd
  obtain ⟨ok4, ok5⟩ := and2 ok3
  obtain rfl : len = 2 := Nat.eq_of_beq_eq_true ok4
  split at ok5
  · next kd p1 =>
    obtain ⟨ok6, ok9⟩ := and2 ok5
    obtain ⟨ok7, ok8⟩ := and2 ok6
    have hkt := of_decide_eq_true ok8
    obtain ⟨n, st, rfl, h1⟩ := ppI_inv h
    obtain ⟨hc0, h2⟩ := gd_inv h1
    obtain ⟨hn0, hn1⟩ := and2 hc0
    have hn0 : ¬ n < 0 := by simpa using hn0
    have hn1 := Nat.le_of_ble_eq_true hn1
    have hn2 := Nat.le_of_ble_eq_true ok9
    obtain ⟨hm, hk⟩ := hK _ _ _ h2
    refine ⟨mle_K hm (Nat.le_succ _) (Nat.le_add_right _ _), fun H locs Ls hR hS hL g1 g2 => ?_⟩
    have hm1 : msz μ + 1 ≤ msz μ9 := hm.1
    have hm2 : msl μ + n.toNatClampNeg ≤ msl μ9 := hm.2
    have hz := hR.1
    have hkl := kty_lt hkt
    refine va_newaK hx hb (hts _ (wis_g ok7 rfl)) rfl hd rfl hn0 rfl (Nat.le_trans (Nat.mul_le_mul hn1 hn2) (Nat.le_of_ble_eq_true rfl)) (by omega) (by omega) rfl fun H1 cA e1 e2 e3 hAr hNm => ?_
    have hcA : cA = G.2.2 kd := by
      have q := (wf.2.2.1 kd _ hkt).2
      have q2 : s.vm.findClass ("[" ++ (newarray.typeOf ty).toString) = some (G.2.2 kd) := by cases ty <;> exact q
      exact Option.some.inj (hNm.symm.trans q2)
    have ead : cad N0 ro (msz μ) = H.size := by
      unfold cad
      rw [if_neg (by omega)]
      omega
    have hk2 := hk H1 locs Ls (hR.push (by omega) (cell_arr (ty := newarray.typeOf ty) (k := kd) (n := n.toNatClampNeg) (g := fun _ => defaultValue (newarray.typeOf ty)) (if_pos rfl) hkt (if_pos rfl) (fun j => ?_) (by rw [ead, ← hcA]; exact e1)) e2 e3) ⟨by have := hS.1; omega, fun q q1 q2 => (e3 q (Nat.lt_of_lt_of_le q1 hS.1)).trans (hS.2.1 q q1 q2), hS.2.2⟩ hL (by show z0 ≤ msz μ + 1; omega) (by show y0 ≤ msl μ + _; omega)
    · have e5 : msz (alc μ kd n.toNatClampNeg n.toNatClampNeg) - z0 = msz μ - z0 + 1 := by show msz μ + 1 - z0 = _; omega
      have e6 : msl (alc μ kd n.toNatClampNeg n.toNatClampNeg) - y0 = msl μ - y0 + n.toNatClampNeg := by show msl μ + n.toNatClampNeg - y0 = _; omega
      rw [e5, e6, List.map_cons, show cv (cad N0 ro) z (.ref (msz μ)) = .ref H.size from by rw [← ead]; rfl] at hk2
      exact hk2
    · have q1 : gI (alc μ kd n.toNatClampNeg n.toNatClampNeg) (msz μ) j = 0 := if_pos rfl
      have q2 : gL (alc μ kd n.toNatClampNeg n.toNatClampNeg) (msz μ) j = 0 := if_pos rfl
      have q3 : gR (alc μ kd n.toNatClampNeg n.toNatClampNeg) (msz μ) j = none := if_pos rfl
      unfold elv
      rw [q1, q2, q3]
      cases ty <;> first | rfl | (exfalso; revert hkt; unfold kty; split <;> simp [newarray.typeOf])
  · cases ok5
theorem s_new {idx : Nat} (cx : Cx p R s m args meth c N0 G ro z xs L t d z0 y0 μ9) (ok : okI t (pc, .new idx, len, as, ws) = true) (hK : ∀ ls st μ, K ls st μ = some (r, μ9) → Wk p l e R s m args below meth c Q N0 G ro z xs L t.2.2.1 z0 y0 μ9 (pc + len) ls st μ) (hJ : ∀ b ls st μ, J b ls st μ = some (r, μ9) → Wk p l e R s m args below meth c Q N0 G ro z xs L t.2.2.1 z0 y0 μ9 (bpc t b) ls st μ) (h : x1 C J (.new idx) as ls st μ K = some (r, μ9)) : Wk p l e R s m args below meth c Q N0 G ro z xs L t.2.2.1 z0 y0 μ9 pc ls st μ := by
  obtain ⟨hx, hb, hml, hown, hts, hmn, wf, hfr, hlo, hce, hsl⟩ := cx
  unfold okI at ok
  dsimp only at ok
  obtain ⟨hd, ok3⟩ := and2 ok
  have hd := of_decide_eq_true hd
  obtain ⟨ok4, ok5⟩ := and2 ok3
  obtain rfl : len = 3 := Nat.eq_of_beq_eq_true ok4
  split at ok5
  · next ci n p1 p2 p3 =>
    obtain ⟨ok6, ok9⟩ := and2 ok5
    obtain ⟨ok7, o3⟩ := and2 ok6
    obtain ⟨o1, o2⟩ := and2 ok7
    split at ok9
    · next q hq =>
      have hN := of_decide_eq_true ok9
      subst hN
      rw [clN_of hq] at o1 o2 o3
      obtain ⟨hm, hk⟩ := hK _ _ _ h
      refine ⟨mle_K hm (Nat.le_succ _) (Nat.le_add_right _ _), fun H locs Ls hR hS hL g1 g2 => ?_⟩
      have hm1 : msz μ + 1 ≤ msz μ9 := hm.1
      have hm2 : msl μ + q.2.2 ≤ msl μ9 := hm.2
      have hz := hR.1
      have hci : ci < 13 := by
        rcases Nat.lt_or_ge ci 13 with h9 | h9
        · exact h9
        · rw [List.getElem?_eq_none (show vwCl.length ≤ ci from h9)] at hq
          cases hq
      have hKn := wf.2.1 _ _ hq
      obtain ⟨ty0, hty0⟩ := vw_ty hq
      refine W.newcK hx hb hown (hts _ (wis_g o1 rfl)) (hts _ (wis_g o2 rfl)) (hts _ (wis_g o3 rfl)) rfl hd (by omega) (by omega) hKn.2.1 rfl fun H1 kC hkC e1 e2 e3 => ?_
      have ead : cad N0 ro (msz μ) = H.size := by
        unfold cad
        rw [if_neg (by omega)]
        omega
      have hcell : cellok G (cad N0 ro) (alc μ ci 0 q.2.2) H1 (msz μ) := by
        unfold cellok
        rw [show shp (alc μ ci 0 q.2.2) (msz μ) = ci from if_pos rfl, kty_none hci]
        refine ⟨q, hq, ?_⟩
        rw [ead]
        refine (u_born ty0 hts (vw_in hq) hKn hkC e1 hty0).to fun j hj => ?_
        obtain ⟨ty1, w1, w2⟩ := vw_df hq j hj
        cases (hty0 j hj).symm.trans w1
        rw [w2]
        unfold fvl fvk
        rw [show gI (alc μ ci 0 q.2.2) (msz μ) j = 0 from if_pos rfl, show gR (alc μ ci 0 q.2.2) (msz μ) j = none from if_pos rfl]
        rfl
      have hk2 := hk H1 locs Ls (hR.push (by omega) hcell e2 e3) ⟨by have := hS.1; omega, fun q q1 q2 => (e3 q (Nat.lt_of_lt_of_le q1 hS.1)).trans (hS.2.1 q q1 q2), hS.2.2⟩ hL (by show z0 ≤ msz μ + 1; omega) (by show y0 ≤ msl μ + _; omega)
      have e5 : msz (alc μ ci 0 q.2.2) - z0 = msz μ - z0 + 1 := by show msz μ + 1 - z0 = _; omega
      have e6 : msl (alc μ ci 0 q.2.2) - y0 = msl μ - y0 + q.2.2 := by show msl μ + q.2.2 - y0 = _; omega
      rw [e5, e6, List.map_cons, show cv (cad N0 ro) z (.ref (msz μ)) = .ref H.size from by rw [← ead]; rfl] at hk2
      exact hk2
    · cases ok9
  · cases ok5
theorem w_anew {H : Heap} {locs : List Loc} {idx kd p1 : Nat} {E : String} {n : Int32} {Ls : Array Slot} {rest : List Value} (cx : Cx p R s m args meth c N0 G ro z xs L t d z0 y0 μ9) (hd : decode t.2.1 pc = .ok (.anewarray idx, 3)) (hw : wis p1 (.classLink t.1.cls idx E) = true) (hkt : kty kd = some (.object E)) (hover : va_AO E s) (hn0 : ¬ n < 0) (hn1 : n.toNatClampNeg ≤ 100000) (hm : mle (alc μ kd n.toNatClampNeg n.toNatClampNeg) μ9) (hR : Rep N0 G ro xs L μ H) (hS : va_S (fun q => N0 ≤ q) s.heap H locs) (g1 : z0 ≤ msz μ) (g2 : y0 ≤ msl μ)
    (kk : ∀ (H1 : Heap), Rep N0 G ro xs L (alc μ kd n.toNatClampNeg n.toNatClampNeg) H1 → va_S (fun q => N0 ≤ q) s.heap H1 locs → W p l e R s m args below meth c H1 locs (msz μ + 1 - z0) (msl μ + n.toNatClampNeg - y0) Q (F0 m (pc + 3) Ls (.ref (cad N0 ro (msz μ)) :: rest))) : W p l e R s m args below meth c H locs (msz μ - z0) (msl μ - y0) Q (F0 m pc Ls (.int n :: rest)) := by
  obtain ⟨hx, hb, hml, hown, hts, hmn, wf, hfr, hlo, hce, hsl⟩ := cx
  have hm1 : msz μ + 1 ≤ msz μ9 := hm.1
  have hm2 : msl μ + n.toNatClampNeg ≤ msl μ9 := hm.2
  have hz := hR.1
  have hkl := kty_lt hkt
  refine W.anew hx hb hown (hts _ (wis_g hw rfl)) (va_AO.use hover) rfl hd rfl hn0 (Nat.le_trans (Nat.mul_le_mul hn1 (Nat.le_refl 4)) (Nat.le_of_ble_eq_true rfl)) (by omega) (by omega) fun cA kA comp f1 f2 f3 f4 => ?_
  generalize hH1 : H.push ({ cls := cA, slots := Array.replicate n.toNatClampNeg .null, vm := .none } : Cell) = H1
  have e2 : H1.size = H.size + 1 := by rw [← hH1, Array.size_push]
  have e1 : H1[H.size]? = some (arrV cA n.toNatClampNeg (fun _ => .null)) := by rw [← hH1, Array.getElem?_push_size, ← arrV_new]
  have e3 : ∀ q : Nat, q < H.size → H1[q]? = H[q]? := fun q hq => by rw [← hH1, Array.getElem?_push, if_neg (Nat.ne_of_lt hq)]
  have hcA : cA = G.2.2 kd := by
    obtain ⟨kA2, comp2, k1, k2, k3, k4⟩ := (wf.2.2.1 kd _ hkt).2
    exact Option.some.inj (f1.symm.trans k4)
  have ead : cad N0 ro (msz μ) = H.size := by
    unfold cad
    rw [if_neg (by omega)]
    omega
  have hk2 := kk H1 (hR.push (by omega) (cell_arr (ty := .object E) (k := kd) (n := n.toNatClampNeg) (g := fun _ => .null) (if_pos rfl) hkt (if_pos rfl) (fun j => ?_) (by rw [ead, ← hcA]; exact e1)) e2 e3) ⟨by have := hS.1; omega, fun q q1 q2 => (e3 q (Nat.lt_of_lt_of_le q1 hS.1)).trans (hS.2.1 q q1 q2), hS.2.2⟩
  · rw [show msz μ + 1 - z0 = msz μ - z0 + 1 by omega, show msl μ + n.toNatClampNeg - y0 = msl μ - y0 + n.toNatClampNeg by omega, ead] at hk2
    exact hk2
  · unfold elv
    rw [show gR (alc μ kd n.toNatClampNeg n.toNatClampNeg) (msz μ) j = none from if_pos rfl]
    rfl
theorem s_anewarray {idx : Nat} (cx : Cx p R s m args meth c N0 G ro z xs L t d z0 y0 μ9) (ok : okI t (pc, .anewarray idx, len, as, ws) = true) (hK : ∀ ls st μ, K ls st μ = some (r, μ9) → Wk p l e R s m args below meth c Q N0 G ro z xs L t.2.2.1 z0 y0 μ9 (pc + len) ls st μ) (hJ : ∀ b ls st μ, J b ls st μ = some (r, μ9) → Wk p l e R s m args below meth c Q N0 G ro z xs L t.2.2.1 z0 y0 μ9 (bpc t b) ls st μ) (h : x1 C J (.anewarray idx) as ls st μ K = some (r, μ9)) : Wk p l e R s m args below meth c Q N0 G ro z xs L t.2.2.1 z0 y0 μ9 pc ls st μ := by
  have cx0 := cx
  obtain ⟨hx, hb, hml, hown, hts, hmn, wf, hfr, hlo, hce, hsl⟩ := cx
  unfold okI at ok
  dsimp only at ok
  obtain ⟨hd, ok3⟩ := and2 ok
  have hd := of_decide_eq_true hd
  obtain ⟨ok4, ok5⟩ := and2 ok3
  obtain rfl : len = 3 := Nat.eq_of_beq_eq_true ok4
  split at ok5
  · obtain ⟨n, st, rfl, h1⟩ := ppI_inv h
    obtain ⟨hc0, h2⟩ := gd_inv h1
    obtain ⟨hn0, hn1⟩ := and2 hc0
    obtain ⟨hm, hk⟩ := hK _ _ _ h2
    exact ⟨mle_K hm (Nat.le_succ _) (Nat.le_add_right _ _), fun H locs Ls hR hS hL g1 g2 => w_anew cx0 hd ok5 rfl wf.2.2.2.2.2.2.2.2.2.2.1 (by simpa using hn0) (Nat.le_of_ble_eq_true hn1) hm hR hS g1 g2 (fun H1 hR1 hS1 => hk H1 locs Ls hR1 hS1 hL (Nat.le_succ_of_le g1) (Nat.le_trans g2 (Nat.le_add_right _ _)))⟩
  · obtain ⟨n, st, rfl, h1⟩ := ppI_inv h
    obtain ⟨hc0, h2⟩ := gd_inv h1
    obtain ⟨hn0, hn1⟩ := and2 hc0
    obtain ⟨hm, hk⟩ := hK _ _ _ h2
    exact ⟨mle_K hm (Nat.le_succ _) (Nat.le_add_right _ _), fun H locs Ls hR hS hL g1 g2 => w_anew cx0 hd ok5 rfl wf.2.2.2.2.2.2.2.2.2.2.2 (by simpa using hn0) (Nat.le_of_ble_eq_true hn1) hm hR hS g1 g2 (fun H1 hR1 hS1 => hk H1 locs Ls hR1 hS1 hL (Nat.le_succ_of_le g1) (Nat.le_trans g2 (Nat.le_add_right _ _)))⟩
  · cases ok5
theorem s_instanceof {idx : Nat} (cx : Cx p R s m args meth c N0 G ro z xs L t d z0 y0 μ9) (ok : okI t (pc, .instanceof idx, len, as, ws) = true) (hK : ∀ ls st μ, K ls st μ = some (r, μ9) → Wk p l e R s m args below meth c Q N0 G ro z xs L t.2.2.1 z0 y0 μ9 (pc + len) ls st μ) (hJ : ∀ b ls st μ, J b ls st μ = some (r, μ9) → Wk p l e R s m args below meth c Q N0 G ro z xs L t.2.2.1 z0 y0 μ9 (bpc t b) ls st μ) (h : x1 C J (.instanceof idx) as ls st μ K = some (r, μ9)) : Wk p l e R s m args below meth c Q N0 G ro z xs L t.2.2.1 z0 y0 μ9 pc ls st μ := by
  obtain ⟨hx, hb, hml, hown, hts, hmn, wf, hfr, hlo, hce, hsl⟩ := cx
  unfold okI at ok
  dsimp only at ok
  obtain ⟨hd, ok3⟩ := and2 ok
  have hd := of_decide_eq_true hd
  obtain ⟨ok4, ok5⟩ := and2 ok3
  obtain rfl : len = 3 := Nat.eq_of_beq_eq_true ok4
  split at ok5
  · next n cs p1 =>
    split at ok5
    · next o i nm hw =>
      obtain ⟨ok6, o5⟩ := and2 ok5
      obtain ⟨ok7, o4⟩ := and2 ok6
      obtain ⟨ok8, o3⟩ := and2 ok7
      obtain ⟨o1, o2⟩ := and2 ok8
      have o1 := of_decide_eq_true o1
      have o2 := of_decide_eq_true o2
      subst o1; subst o2
      have hlink := hts (.classLink t.1.cls i nm) (List.mem_filter.mpr ⟨List.mem_of_getElem? hw, rfl⟩)
      obtain ⟨a, st, rfl, h1⟩ := ppR_inv h
      obtain ⟨hc, h2⟩ := gd_inv h1
      have hc := cin_mem hc
      have h13 : shp μ a < 13 := by have := Nat.le_of_ble_eq_true (List.all_eq_true.mp o3 _ hc); omega
      cases hcin : cin (cs.take n) (shp μ a) with
      | true =>
        rw [hcin] at h2
        obtain ⟨hm, hk⟩ := hK _ _ _ h2
        refine ⟨hm, fun H locs Ls hR hS hL g1 g2 => ?_⟩
        obtain ⟨cell, q1, q2, q3, q4⟩ := ob_cell wf hR h13
        have hmem := cin_mem hcin
        have hh := List.all_eq_true.mp o4 _ hmem
        rcases Bool.or_eq_true_iff.mp hh with hh | hh
        · have hh := of_decide_eq_true hh
          rw [hh] at q3 q4
          exact va_instS hx hb hown hlink q4 ⟨cell, q1, by rw [q2]; rfl, q3⟩ hd (hk H locs Ls hR hS hL g1 g2)
        · have hh : (clN (shp μ a), nm) ∈ castW := by simpa using hh
          exact va_instY hx hb hown hlink (wf.2.2.2.2.2.2.2.2.1 _ hh) ⟨cell, q1, by rw [q2]; rfl, q3⟩ hd (hk H locs Ls hR hS hL g1 g2)
      | false =>
        rw [hcin] at h2
        obtain ⟨hm, hk⟩ := hK _ _ _ h2
        refine ⟨hm, fun H locs Ls hR hS hL g1 g2 => ?_⟩
        obtain ⟨cell, q1, q2, q3, q4⟩ := ob_cell wf hR h13
        have hmem : shp μ a ∈ cs.drop n := by
          rw [← List.take_append_drop n cs] at hc
          rcases List.mem_append.mp hc with hc | hc
          · exact absurd hc (cin_not hcin)
          · exact hc
        have hh : (clN (shp μ a), nm) ∈ ncastW := by simpa using List.all_eq_true.mp o5 _ hmem
        exact va_instNo hx hb hown hlink (wf.2.2.2.2.2.2.2.2.2.1 _ hh) ⟨cell, q1, by rw [q2]; rfl, q3⟩ hd (hk H locs Ls hR hS hL g1 g2)
    · cases ok5
  · cases ok5
theorem s_nop  (cx : Cx p R s m args meth c N0 G ro z xs L t d z0 y0 μ9) (ok : okI t (pc, .nop, len, as, ws) = true) (hK : ∀ ls st μ, K ls st μ = some (r, μ9) → Wk p l e R s m args below meth c Q N0 G ro z xs L t.2.2.1 z0 y0 μ9 (pc + len) ls st μ) (hJ : ∀ b ls st μ, J b ls st μ = some (r, μ9) → Wk p l e R s m args below meth c Q N0 G ro z xs L t.2.2.1 z0 y0 μ9 (bpc t b) ls st μ) (h : x1 C J (.nop) as ls st μ K = some (r, μ9)) : Wk p l e R s m args below meth c Q N0 G ro z xs L t.2.2.1 z0 y0 μ9 pc ls st μ := by
  have has : ∃ b, as = [b] := by
    unfold x1 at h
    dsimp only at h
    split at h
    · exact ⟨_, rfl⟩
    · cases h
  obtain ⟨b, rfl⟩ := has
  cases len with
  | zero =>
    unfold okI at ok
    dsimp only at ok
    obtain ⟨hm, hk⟩ := hJ _ _ _ _ h
    rw [Nat.eq_of_beq_eq_true ok] at hk
    exact ⟨hm, hk⟩
  | succ n =>
    unfold okI at ok
    dsimp only at ok
    obtain ⟨hd, ok3⟩ := and2 ok
    cases ok3
end SIM5
