/-! CALLS: the instructions -/
/-- what stands behind a call of a kind -/
theorem bnd_inv {rk : Nat} {r0 : Rs} {k : List Value → MM → Rs} {x : Option Value × MM} (h : bnd rk r0 k = some x) : ∃ (r1 : Option Value) (μ1 : MM), r0 = some (r1, μ1) ∧ k r1.toList μ1 = some x := by
  unfold bnd at h
  split at h
  · split at h
    · exact ⟨_, _, rfl, h⟩
    · cases h
  · split at h
    · exact ⟨_, _, rfl, h⟩
    · cases h
  · split at h
    · exact ⟨_, _, rfl, h⟩
    · cases h
  · split at h
    · exact ⟨_, _, rfl, h⟩
    · exact ⟨_, _, rfl, h⟩
    · cases h
theorem dsp_inv {k : Nat → Rs} {x : Option Value × MM} {s : Nat} : ∀ (cs : List Nat), dsp cs s k = some x → ∃ M, k M = some x ∧ M ∈ mss cs
  | [], h => by cases h
  | [_], h => by cases h
  | c :: M :: r, h => by
    unfold dsp at h
    split at h
    · exact ⟨M, h, by unfold mss; exact List.mem_cons_self⟩
    · obtain ⟨M2, h1, h2⟩ := dsp_inv r h
      exact ⟨M2, h1, by unfold mss; exact List.mem_cons_of_mem _ h2⟩
/-- the row of the receiver's class -/
theorem okD_inv {own : String} {idx pl : Nat} {x : MethodName} {k : Nat → Rs} {y : Option Value × MM} {s : Nat} : ∀ (cs ps : List Nat), okD own idx pl (some x) cs ps = true → dsp cs s k = some y → ∃ M, k M = some y ∧ M ∈ mss cs ∧
    (((s < 13 ∨ s = 30) ∧ x = (mt M).1 ∧ Cond.instanceMethod x ∈ gTbl ∧ Cond.selects (match s with | 30 => "java/lang/String" | _ => clN s) x x ∈ gTbl ∧ Cond.initialized (match s with | 30 => "java/lang/String" | _ => clN s) ∈ gTbl ∧ x.cls = (match s with | 30 => "java/lang/String" | _ => clN s)) ∨
     (s < 13 ∧ ∃ Mo, x.name = (mt Mo).1.name ∧ x.desc = (mt Mo).1.desc ∧ Cond.instanceMethod (mt M).1 ∈ gTbl ∧ Cond.selects (clN s) x (mt M).1 ∈ gTbl ∧ Cond.initialized (mt M).1.cls ∈ gTbl ∧ Cond.sameMethod x.cls (mt Mo).1.cls x.name x.desc ∈ gTbl ∧ (parseMethodDescriptor x.desc).map (fun d => d.parameters.length) = (parseMethodDescriptor (mt M).1.desc).map (fun d => d.parameters.length) ∧ Mo + 1 < allM.length ∧ Cond.instanceMethod (mt Mo).1 ∈ gTbl))
  | [], _, _, h => by cases h
  | [_], _, _, h => by cases h
  | c :: M :: r, ps, hok, h => by
    rcases ps with _ | ⟨f, _ | ⟨p1, _ | ⟨p2, _ | ⟨p3, _ | ⟨p4, _ | ⟨Mo, _ | ⟨p5, ps⟩⟩⟩⟩⟩⟩⟩ <;> first | (cases hok; done) | skip
    unfold okD at hok
    obtain ⟨h1, h2⟩ := and2 hok
    unfold dsp at h
    split at h
    · next hc =>
      have hc : s = c := Nat.eq_of_beq_eq_true hc
      subst hc
      refine ⟨M, h, by unfold mss; exact List.mem_cons_self, ?_⟩
      dsimp only at h1
      split at h1
      · obtain ⟨h1, q5⟩ := and2 h1
        obtain ⟨h1, q4⟩ := and2 h1
        obtain ⟨h1, q3⟩ := and2 h1
        obtain ⟨h1, q2⟩ := and2 h1
        obtain ⟨q0, q1⟩ := and2 h1
        exact Or.inl ⟨(Bool.or_eq_true_iff.mp q0).elim (fun w => Or.inl (Nat.le_of_ble_eq_true w)) (fun w => Or.inr (Nat.eq_of_beq_eq_true w)), of_decide_eq_true q1, wis_g q2 rfl, wis_g q3 rfl, wis_g q4 rfl, of_decide_eq_true q5⟩
      · obtain ⟨h1, q10⟩ := and2 h1
        obtain ⟨h1, q9⟩ := and2 h1
        obtain ⟨h1, q8⟩ := and2 h1
        obtain ⟨h1, q7⟩ := and2 h1
        obtain ⟨h1, q6⟩ := and2 h1
        obtain ⟨h1, q5⟩ := and2 h1
        obtain ⟨h1, q4⟩ := and2 h1
        obtain ⟨h1, q3⟩ := and2 h1
        obtain ⟨q1, q2⟩ := and2 h1
        exact Or.inr ⟨Nat.le_of_ble_eq_true q9, Mo, of_decide_eq_true q1, of_decide_eq_true q2, wis_g q3 rfl, wis_g q4 rfl, wis_g q5 rfl, wis_g q6 rfl, of_decide_eq_true q7, of_decide_eq_true q8, wis_g q10 rfl⟩
    · obtain ⟨M2, g1, g2, g3⟩ := okD_inv r ps h2 h
      exact ⟨M2, g1, by unfold mss; exact List.mem_cons_of_mem _ g2, g3⟩
section CALL2
variable {p : Program} {l : Launch} {e : Env} {R : Room} {s : State} {m : MethodId} {args : Array Value} {below : List Frame} {meth : Method} {c : Code} {Q : State → Prop}
variable {N0 : Nat} {G : GG} {ro : Nat → Nat} {z : Value} {xs : Nat → Int32} {L : Nat} {t : MT} {z0 y0 d : Nat} {r : Option Value} {μ9 : MM}
variable {C : Nat → List Value → MM → Rs} {J : Nat → LV → List Value → MM → Rs} {K : LV → List Value → MM → Rs} {pc len : Nat} {as ws : List Nat} {ls : LV} {st : List Value} {μ : MM}
/-- a super call, also of an inherited method -/
theorem ex_callSU {T : State} {locs : List Loc} {cells slots : Nat} (X : Stand p l e R s m args below meth c T locs cells slots) (hexec : p.tables.exec = Jvm.exec) {own : String} {index : Nat} {x y : MethodName} {bytes : ByteArray} {maxL : Nat} {ret : Option FieldType}
    (hown : s.vm.findClass own = some m.cls) (hlink : (Cond.methodLink own index x).before args s = true) (hxy : y = ⟨y.cls, x.name, x.desc⟩) (hsame : (Cond.sameMethod x.cls y.cls x.name x.desc).before args s = true) (hsup : (Cond.superclass own x.cls).before args s = true) (hup : x.cls = y.cls ∨ (Cond.superclass x.cls y.cls).before args s = true)
    (hinst : (Cond.instanceMethod y).before args s = true) (hcode : (Cond.code y bytes maxL ret).before args s = true) (hno : x.name ≠ "<init>")
    {W : Nat} {Pre : Pt → Array Value → Prop} {Post : Pt → Array Value → Option Value → Pt → Prop} (hK : Back l R p e below s args y 3 W Pre Post)
    {b : Addr} {cellB : Cell} {kB : Class} (hcell : T.heap[b]? = some cellB) (hobj : cellB.vm.isStatics = false) (hkB : s.vm.classes[cellB.cls]? = some kB)
    {g : JFrame} (hg : g.method = m) (hsize : g.locals.size = c.maxLocals) {argsL rest : List Value} (hlen : ∀ sig, parseMethodDescriptor y.desc = some sig → argsL.length = sig.parameters.length)
    (hstack : g.stack = argsL.reverse ++ .ref b :: rest) (hW : 2 * g.monitorRoom + (rest.map fun v => v.category).sum ≤ W) (hdg : decode c.code g.pc = .ok (.invokespecial index, 3))
    (hpre : ∀ vm₁, s.WarmedH vm₁ → Pre ⟨T.setVm vm₁, locs, cells, slots⟩ (Value.ref b :: argsL).toArray) :
    ∃ (v : Option Value) (vm₁ : Vm) (B : Pt), s.WarmedH vm₁ ∧ Stand p l e R s m args below meth c B.U B.locs B.cells B.slots ∧ Post ⟨T.setVm vm₁, locs, cells, slots⟩ (Value.ref b :: argsL).toArray v B ∧
      ∀ target, Steps p.tables e below (B.U.setTop { g with pc := g.pc + 3, stack := v.toList ++ rest }) target → Steps p.tables e below (T.setTop g) target := by
  obtain ⟨mk, methM, hnamed, hmethM, hstM, habM⟩ := Cond.instanceMethod_spec hinst
  obtain ⟨methM', cM, hmethM', -, -, -, -, -, -, hsigM⟩ := Cond.code_spec hnamed hcode
  cases hmethM.symm.trans hmethM'
  obtain ⟨ps, dk, kp, hps, hdk, hkp, hsuper, -, -, hnid⟩ := Cond.superclass_spec hown hsup
  have hn : s.methodNamed? ⟨y.cls, x.name, x.desc⟩ = some mk := by rw [← hxy]; exact hnamed
  have hcy := findClass_of_methodNamed hnamed
  have hsub : s.vm.isSubclass ps mk.cls = true := by
    rcases hup with h | h
    · rw [h] at hps
      have hpm : ps = mk.cls := Option.some.inj (hps.symm.trans hcy)
      rw [hpm]
      simp [Vm.isSubclass, Vm.isSubclassAux]
    · obtain ⟨p2, k2, kp2, h1, h2, h3, h4, -⟩ := Cond.superclass_spec hps h
      have hpm : p2 = mk.cls := Option.some.inj (h1.symm.trans hcy)
      have hsz : ∃ n, s.vm.classes.size = n + 1 := ⟨s.vm.classes.size - 1, by have := (Array.getElem?_eq_some_iff.mp h2).1; omega⟩
      obtain ⟨n, hsz⟩ := hsz
      unfold Vm.isSubclass
      rw [hsz]
      simp [Vm.isSubclassAux, h2, h4, hpm]
  have hsig : parseMethodDescriptor y.desc = some methM.sig := hsigM
  obtain ⟨vm₁, X₁, hstep₁⟩ := X.invokespecialUp hexec hown hlink hsame hn hmethM hstM habM hno hdk hnid hps hsuper hsub (a := b) (cell := cellB) hcell
    (fun z h => by rw [h] at hobj; cases hobj) hkB (g := g) hg (argsL := argsL) (rest := rest) (hlen _ hsig) hstack hdg
  obtain ⟨v, B, X', hpost, hsteps⟩ := hK m meth c ⟨T.setVm vm₁, locs, cells, slots⟩ { g with stack := rest } (.invokespecial index) mk (Value.ref b :: argsL).toArray X₁ hg hsize hdg hW (X₁.named hnamed) (hpre vm₁ X₁.warmed)
  exact ⟨v, vm₁, B, X₁.warmed, X', hpost, fun target h => hstep₁ _ (by rw [doInvoke_state]; exact hsteps.trans h)⟩
theorem s_invokestatic {idx : Nat} (hok : ∀ M, M + 1 < allM.length → ∃ pw, okMT (mt M) pw = true) (hC : ∀ M ar μ r1 μ1, M + 1 < allM.length → C M ar μ = some (r1, μ1) → Con N0 G ro z xs L d M ar μ r1 μ1) (cx : Cx p R s m args meth c N0 G ro z xs L t d z0 y0 μ9) (ok : okI t (pc, .invokestatic idx, len, as, ws) = true) (hK : ∀ ls st μ, K ls st μ = some (r, μ9) → Wk p l e R s m args below meth c Q N0 G ro z xs L t.2.2.1 z0 y0 μ9 (pc + len) ls st μ) (hJ : ∀ b ls st μ, J b ls st μ = some (r, μ9) → Wk p l e R s m args below meth c Q N0 G ro z xs L t.2.2.1 z0 y0 μ9 (bpc t b) ls st μ) (h : x1 C J (.invokestatic idx) as ls st μ K = some (r, μ9)) : Wk p l e R s m args below meth c Q N0 G ro z xs L t.2.2.1 z0 y0 μ9 pc ls st μ := by
  have cx0 := cx
  obtain ⟨hx, hb, hml, hown, hts, hmn, wf, hfr, hlo, hce, hsl⟩ := cx
  unfold okI at ok
  dsimp only at ok
  obtain ⟨hd, ok3⟩ := and2 ok
  have hd := of_decide_eq_true hd
  obtain ⟨ok4, ok5⟩ := and2 ok3
  obtain rfl : len = 3 := Nat.eq_of_beq_eq_true ok4
  split at ok5
  · next p1 p2 p3 p4 =>
    obtain ⟨ok6, o4⟩ := and2 ok5
    obtain ⟨ok7, o3⟩ := and2 ok6
    obtain ⟨o1, o2⟩ := and2 ok7
    obtain ⟨n, st, rfl, h1⟩ := ppI_inv h
    obtain ⟨dp, st, rfl, h2⟩ := ppI_inv h1
    obtain ⟨b, st, rfl, h3⟩ := ppR_inv h2
    obtain ⟨sp, st, rfl, h4⟩ := ppI_inv h3
    obtain ⟨a, st, rfl, h5⟩ := ppR_inv h4
    obtain ⟨g, h6⟩ := gd_inv h5
    obtain ⟨g, g6⟩ := and2 g
    obtain ⟨g, g5⟩ := and2 g
    obtain ⟨g, g4⟩ := and2 g
    obtain ⟨g, g3⟩ := and2 g
    obtain ⟨g, g2⟩ := and2 g
    obtain ⟨gs, gk⟩ := and2 g
    obtain ⟨hm, hk⟩ := hK _ _ _ h6
    refine ⟨mle_K hm (Nat.le_refl _) (Nat.le_refl _), fun H locs Ls hR hS hL q1 q2 => ?_⟩
    obtain ⟨kd, ty, hka, hkb, hkt, hpr, hel, hfit⟩ : ∃ kd ty, shp μ a = kd ∧ shp μ b = kd ∧ kty kd = some ty ∧ refKind ty = false ∧ (∀ (ν : MM) q j, elv (cad N0 ro) ν q j ty = .int (gI ν q j)) ∧ ∀ i, i < n.toNatClampNeg → fits ty (.int (gI μ a (sp.toNatClampNeg + i))) = true := by
      rcases Bool.or_eq_true_iff.mp gk with gk | gk
      · obtain ⟨c1, c2⟩ := and2 gk
        exact ⟨20, .int, by simpa using cin_mem c1, by simpa using cin_mem c2, rfl, rfl, fun _ _ _ => rfl, fun _ _ => rfl⟩
      · obtain ⟨c1, c2⟩ := and2 gk
        obtain ⟨c2, c3⟩ := and2 c2
        exact ⟨23, .byte, by simpa using cin_mem c1, by simpa using cin_mem c2, rfl, rfl, fun _ _ _ => rfl, fun i hi => List.all_eq_true.mp c3 i (List.mem_range.mpr hi)⟩
    have hkl := kty_lt hkt
    have hb28 := hR.at (q := b) (by omega)
    have hc0 := hR.arr hka hkt
    have hc1 := hR.arr hkb hkt
    rw [show (fun j => elv (cad N0 ro) μ a j ty) = fun j => Value.int (gI μ a j) from funext fun j => hel μ a j] at hc0
    rw [show (fun j => elv (cad N0 ro) μ b j ty) = fun j => Value.int (gI μ b j) from funext fun j => hel μ b j] at hc1
    have n1 : ¬ sp < 0 := by simpa using g2
    have n2 : ¬ dp < 0 := by simpa using g3
    have n3 : ¬ n < 0 := by simpa using g4
    have n4 := Nat.le_of_ble_eq_true g5
    have n5 := Nat.le_of_ble_eq_true g6
    have nn : ∀ w : Int32, ¬ w < 0 → w.toInt = (w.toNatClampNeg : Int) := by
      intro w hw
      have hw0 : (0 : Int) ≤ w.toInt := by
        have := Int32.not_lt.mp hw
        simpa using Int32.le_iff_toInt_le.mp this
      show w.toInt = ((w.toInt.toNat : Nat) : Int)
      omega
    have hsz : Ls.size = t.2.2.1 := hL.1
    have hw8 := slr_map (f := cad N0 ro) wf.1.2 gs
    show W p l e R s m args below meth c H locs (msz μ - z0) (msl μ - y0) Q (F0 m pc Ls (.int n :: .int dp :: .ref (cad N0 ro b) :: .int sp :: .ref (cad N0 ro a) :: st.map (cv (cad N0 ro) z)))
    intro T hT X
    obtain ⟨-, k0, hk0, cm0, hkk0⟩ := (wf.2.2.1 kd ty hkt).1 (aln μ a) (fun j => .int (gI μ a j))
    obtain ⟨-, k1, hk1, cm1, hkk1⟩ := (wf.2.2.1 kd ty hkt).1 (aln μ b) (fun j => .int (gI μ b j))
    obtain ⟨vm', X', step⟩ := X.arraycopy hx hown (hts _ (wis_g o1 rfl)) (hts _ (wis_g o2 rfl)) (hts _ (wis_g o3 rfl)) (hts _ (wis_g o4 rfl)) (src := cad N0 ro a) (dst := cad N0 ro b) (srcPos := sp) (destPos := dp) (n := n) (by rw [hT]; exact hc0) (by rw [hT]; exact hc1)
      (fun _ h => by cases h) (fun _ h => by cases h) (fun h => by cases h) (fun h => by cases h) hk0 hk1 hkk0 hkk1 (by simp [hpr]) n1 n2 n3
      (by rw [nn sp n1, nn n n3, arrV_size]; omega) (by rw [nn dp n2, nn n n3, arrV_size]; omega)
      (fun vm₁ _ i hi => by
        have e : (arrV (G.2.2 kd) (aln μ a) (fun j => Value.int (gI μ a j))).slots.getD (sp.toNatClampNeg + i) .null = .int (gI μ a (sp.toNatClampNeg + i)) := by
          rw [Array.getD_eq_getD_getElem?, arrV_read _ _ (by omega)]
          rfl
        rw [e]
        exact ⟨hfit i hi, trivial⟩)
      (g := F0 m pc Ls (.int n :: .int dp :: .ref (cad N0 ro b) :: .int sp :: .ref (cad N0 ro a) :: st.map (cv (cad N0 ro) z))) rfl (by rw [hml]; exact hsz) (rest := st.map (cv (cad N0 ro) z)) rfl (by rw [hb]; exact hd) (by omega) (by
        have e9 : nativeFrameWords "java/lang/System" "arraycopy" 5 = 7 := by decide +kernel
        rw [e9]
        show 2 * 0 + _ + (7 + 11) ≤ _
        omega)
    have e1 : copied (arrV (G.2.2 kd) (aln μ a) (fun j => Value.int (gI μ a j))) (arrV (G.2.2 kd) (aln μ b) (fun j => Value.int (gI μ b j))) sp dp n = arrV (G.2.2 kd) (aln μ b) (fun j => Value.int (va_cpy (gI μ a) (gI μ b) sp.toNatClampNeg dp.toNatClampNeg n.toNatClampNeg j)) := va_copied (fun w => .int w) (G.2.2 kd) (G.2.2 kd) (gI μ a) (gI μ b) n4
    rw [e1] at X' step
    have hl : cad N0 ro b < H.size := (Array.getElem?_eq_some_iff.mp hc1).1
    have hheap : ((T.setVm vm').setCell (cad N0 ro b) (arrV (G.2.2 kd) (aln μ b) (fun j => Value.int (va_cpy (gI μ a) (gI μ b) sp.toNatClampNeg dp.toNatClampNeg n.toNatClampNeg j)))).heap = H.setIfInBounds (cad N0 ro b) (arrV (G.2.2 kd) (aln μ b) (fun j => Value.int (va_cpy (gI μ a) (gI μ b) sp.toNatClampNeg dp.toNatClampNeg n.toNatClampNeg j))) := by rw [← hT]; rfl
    have oq : ∀ q : Nat, q ≠ cad N0 ro b → (H.setIfInBounds (cad N0 ro b) (arrV (G.2.2 kd) (aln μ b) (fun j => Value.int (va_cpy (gI μ a) (gI μ b) sp.toNatClampNeg dp.toNatClampNeg n.toNatClampNeg j))))[q]? = H[q]? := fun q hq => by simp [Array.getElem?_setIfInBounds, Ne.symm hq]
    obtain ⟨t2, a1, b1⟩ := hk _ _ Ls (hR.upd (a := b) (μ' := cpI μ a sp.toNatClampNeg b dp.toNatClampNeg n.toNatClampNeg) hb28.1 (fun _ => rfl) (fun _ => rfl) rfl (fun q j hq => if_neg (fun q2 => hq q2.1)) (fun _ _ _ => rfl) (fun _ _ _ => rfl) (cell_arr (ty := ty) (k := kd) (g := fun j => Value.int (va_cpy (gI μ a) (gI μ b) sp.toNatClampNeg dp.toNatClampNeg n.toNatClampNeg j)) hkb hkt rfl (fun j => by
        rw [hel]
        show Value.int _ = Value.int _
        congr 1
        show (if b = b ∧ dp.toNatClampNeg ≤ j ∧ j < dp.toNatClampNeg + n.toNatClampNeg then gI μ a (sp.toNatClampNeg + (j - dp.toNatClampNeg)) else gI μ b j) = if dp.toNatClampNeg ≤ j ∧ j < dp.toNatClampNeg + n.toNatClampNeg then gI μ a (sp.toNatClampNeg + (j - dp.toNatClampNeg)) else gI μ b j
        simp) (by simp [Array.getElem?_setIfInBounds, hl]; rfl)) (by simp) oq) ⟨by simp; exact hS.1, fun q w1 w2 => by
          rw [oq q (fun e => w2 (by rw [e]; exact cad_ge hb28.1))]
          exact hS.2.1 q w1 w2, fun q hq => by
          rcases List.mem_append.mp hq with h | h
          · exact hS.2.2 q h
          · obtain ⟨w, -, hw⟩ := List.mem_map.mp h
            rw [← hw]
            exact cad_ge hb28.1⟩ hL q1 q2 _ hheap X'
    exact ⟨t2, step t2 a1, b1⟩
  · next p1 p2 p3 p4 =>
    obtain ⟨ok6, o4⟩ := and2 ok5
    obtain ⟨ok7, o3⟩ := and2 ok6
    obtain ⟨o1, o2⟩ := and2 ok7
    obtain ⟨y, st, rfl, h1⟩ := ppI_inv h
    obtain ⟨x, st, rfl, h2⟩ := ppI_inv h1
    obtain ⟨gs, h3⟩ := gd_inv h2
    obtain ⟨hm, hk⟩ := hK _ _ _ h3
    refine ⟨hm, fun H locs Ls hR hS hL q1 q2 => ?_⟩
    have hw8 := slr_map (f := cad N0 ro) wf.1.2 gs
    have m1 := hm.1
    have m2 := hm.2
    exact va_mmax hx hb (by rw [hml]; exact hL.1.symm) hown (hts _ (wis_g o1 rfl)) (hts _ (wis_g o2 rfl)) (hts _ (wis_g o3 rfl)) (hts _ (wis_g o4 rfl)) (by omega) (by omega) (by omega) (by omega) hd (hk H locs Ls hR hS hL q1 q2)
  · next p1 p2 p3 p4 =>
    obtain ⟨ok6, o4⟩ := and2 ok5
    obtain ⟨ok7, o3⟩ := and2 ok6
    obtain ⟨o1, o2⟩ := and2 ok7
    obtain ⟨y, st, rfl, h1⟩ := ppI_inv h
    obtain ⟨x, st, rfl, h2⟩ := ppI_inv h1
    obtain ⟨gs, h3⟩ := gd_inv h2
    obtain ⟨hm, hk⟩ := hK _ _ _ h3
    refine ⟨hm, fun H locs Ls hR hS hL q1 q2 => ?_⟩
    have hw8 := slr_map (f := cad N0 ro) wf.1.2 gs
    have m1 := hm.1
    have m2 := hm.2
    exact va_mmin hx hb (by rw [hml]; exact hL.1.symm) hown (hts _ (wis_g o1 rfl)) (hts _ (wis_g o2 rfl)) (hts _ (wis_g o3 rfl)) (hts _ (wis_g o4 rfl)) (by omega) (by omega) (by omega) (by omega) hd (hk H locs Ls hR hS hL q1 q2)
  · next rk n M ns p1 p2 =>
    obtain ⟨ok6, o3⟩ := and2 ok5
    obtain ⟨o1, o2⟩ := and2 ok6
    obtain ⟨hret, hlen, hM⟩ := vk_ret o1
    obtain ⟨pw, hpw⟩ := hok M hM
    obtain ⟨k1, k2, k3, k4, k5, k6⟩ := okMT_inv hpw
    obtain ⟨vs, st, hvl, rfl, h1⟩ := ppN_inv _ _ _ h
    obtain ⟨gs, h2⟩ := gd_inv h1
    obtain ⟨r1, μ1, hc, h3⟩ := bnd_inv h2
    rw [List.append_nil] at hc
    obtain ⟨hm, hk⟩ := hK _ _ _ h3
    obtain ⟨hm0, hcon⟩ := hC _ _ _ _ _ hM hc
    refine ⟨mle_tr hm0 hm, fun H locs Ls hR hS hL q1 q2 => ?_⟩
    have hw8 := slr_map (f := cad N0 ro) wf.1.2 gs
    obtain ⟨hf, z1, z2⟩ := room_ok hm0 hm q1 q2 hce hsl
    obtain ⟨b1, b2, b3, b4, b5, b6⟩ := c_base (μ := μ) (μ1 := μ1) cx0 hpw
    have hst : (vs ++ st).map (cv (cad N0 ro) z) = ((vs.reverse).map (cv (cad N0 ro) z)).reverse ++ st.map (cv (cad N0 ro) z) := by simp
    have hrun : va_Run p l e R s m args below meth c H locs (msz μ - z0) (msl μ - y0) (msz μ1 - msz μ) (msl μ1 - msl μ) (F0 m pc Ls ((vs ++ st).map (cv (cad N0 ro) z))) (st.map (cv (cad N0 ro) z)) (Qcn N0 G ro z xs L r1 μ1 ((vs.reverse).map (cv (cad N0 ro) z)).toArray) (fun q => N0 ≤ q) := by
      have hlen2 : ((vs.reverse).map (cv (cad N0 ro) z)).length = n := by simp [hvl]
      split at o3
      · exact va_runS (n := n) (nL := t.2.2.1) ⟨hx, hb, hml, hown, hts⟩ (hcon l) ⟨⟨b1, b2, b3, b4, b5, b6, hts _ k5, hts _ k6, k2, hlen, hts _ (wis_g o3 rfl)⟩, hts _ (wis_g o2 rfl)⟩ ⟨pcn_blind, pre_ok wf hR hS⟩ rfl hlen2 hL.1 hst (lv_room hw8) hd hf
      · exact va_runSN (n := n) (nL := t.2.2.1) ⟨hx, hb, hml, hown, hts⟩ (hcon l) ⟨⟨⟨b1, b2, b3, b4, b5, b6⟩, hts _ k5, hts _ k6, k2, hlen, va_Nw.use rfl (wf.2.2.2.2.2.2.2.1 _ (wis_in o3) rfl)⟩, hts _ (wis_g o2 rfl), trivial⟩ ⟨pcn_blind, pre_ok wf hR hS⟩ rfl hlen2 hL.1 hst (lv_room hw8) hd hf
    refine w_back hrun hS fun H1 locs1 hR1 hS1 => ?_
    have hk2 := hk H1 locs1 Ls hR1 hS1 hL (Nat.le_trans q1 hm0.1) (Nat.le_trans q2 hm0.2)
    rw [z1, z2]
    have e9 : (r1.map (cv (cad N0 ro) z)).toList ++ st.map (cv (cad N0 ro) z) = (r1.toList ++ st).map (cv (cad N0 ro) z) := by
      cases r1 <;> simp
    rw [e9]
    exact hk2
  · cases ok5
theorem s_invokespecial {idx : Nat} (hok : ∀ M, M + 1 < allM.length → ∃ pw, okMT (mt M) pw = true) (hobj : Cond.instanceMethod objectInit ∈ gTbl ∧ Cond.code objectInit ⟨#[0xb1]⟩ 1 none ∈ gTbl) (hC : ∀ M ar μ r1 μ1, M + 1 < allM.length → C M ar μ = some (r1, μ1) → Con N0 G ro z xs L d M ar μ r1 μ1) (cx : Cx p R s m args meth c N0 G ro z xs L t d z0 y0 μ9) (ok : okI t (pc, .invokespecial idx, len, as, ws) = true) (hK : ∀ ls st μ, K ls st μ = some (r, μ9) → Wk p l e R s m args below meth c Q N0 G ro z xs L t.2.2.1 z0 y0 μ9 (pc + len) ls st μ) (hJ : ∀ b ls st μ, J b ls st μ = some (r, μ9) → Wk p l e R s m args below meth c Q N0 G ro z xs L t.2.2.1 z0 y0 μ9 (bpc t b) ls st μ) (h : x1 C J (.invokespecial idx) as ls st μ K = some (r, μ9)) : Wk p l e R s m args below meth c Q N0 G ro z xs L t.2.2.1 z0 y0 μ9 pc ls st μ := by
  have cx0 := cx
  obtain ⟨hx, hb, hml, hown, hts, hmn, wf, hfr, hlo, hce, hsl⟩ := cx
  unfold okI at ok
  dsimp only at ok
  obtain ⟨hd, ok3⟩ := and2 ok
  have hd := of_decide_eq_true hd
  obtain ⟨ok4, ok5⟩ := and2 ok3
  obtain rfl : len = 3 := Nat.eq_of_beq_eq_true ok4
  split at ok5
  · next p1 =>
    obtain ⟨a, st, rfl, h1⟩ := ppR_inv h
    obtain ⟨gs, h2⟩ := gd_inv h1
    obtain ⟨hm, hk⟩ := hK _ _ _ h2
    refine ⟨hm, fun H locs Ls hR hS hL q1 q2 => ?_⟩
    have hw8 := slr_map (f := cad N0 ro) wf.1.2 gs
    exact W.objInit hx hb hown (hts _ (wis_g ok5 rfl)) (hts _ hobj.1) (hts _ hobj.2) rfl (by rw [hml]; exact hL.1) rfl hd (by omega) (by show 2 * 0 + _ + 12 ≤ _; omega) (hk H locs Ls hR hS hL q1 q2)
  · next rk n M cs ns p1 p2 =>
    obtain ⟨ok6, o6⟩ := and2 ok5
    obtain ⟨ok7, o5⟩ := and2 ok6
    obtain ⟨ok8, o4⟩ := and2 ok7
    obtain ⟨ok9, o3⟩ := and2 ok8
    obtain ⟨o1, o2⟩ := and2 ok9
    obtain ⟨hret, hlen, hM⟩ := vk_ret o1
    have hrk := Nat.eq_of_beq_eq_true o2
    subst hrk
    have hret0 : (mt M).2.2.2.1 = none := by
      generalize (mt M).2.2.2.1 = w at hret
      cases w with
      | none => rfl
      | some w => cases hret
    have hnm := of_decide_eq_true o3
    obtain ⟨pw, hpw⟩ := hok M hM
    obtain ⟨k1, k2, k3, k4, k5, k6⟩ := okMT_inv hpw
    obtain ⟨vs, st, hvl, rfl, h1⟩ := ppN_inv _ _ _ h
    obtain ⟨a, st, rfl, h1⟩ := ppR_inv h1
    obtain ⟨g, h2⟩ := gd_inv h1
    obtain ⟨gs, gc⟩ := and2 g
    obtain ⟨r1, μ1, hc, h3⟩ := bnd_inv h2
    rw [List.append_nil] at hc
    obtain ⟨hm, hk⟩ := hK _ _ _ h3
    obtain ⟨hm0, hcon⟩ := hC _ _ _ _ _ hM hc
    refine ⟨mle_tr hm0 hm, fun H locs Ls hR hS hL q1 q2 => ?_⟩
    have hw8 := slr_map (f := cad N0 ro) wf.1.2 gs
    obtain ⟨hf, z1, z2⟩ := room_ok hm0 hm q1 q2 hce hsl
    obtain ⟨b1, b2, b3, b4, b5, b6⟩ := c_base (μ := μ) (μ1 := μ1) cx0 hpw
    have hst : (vs ++ .ref a :: st).map (cv (cad N0 ro) z) = ((vs.reverse).map (cv (cad N0 ro) z)).reverse ++ .ref (cad N0 ro a) :: st.map (cv (cad N0 ro) z) := by simp [cv]
    have hpre : PreS s H (Pcn N0 G ro z xs L (.ref a :: vs.reverse) μ) (.ref (cad N0 ro a) :: (vs.reverse).map (cv (cad N0 ro) z)) := ⟨pcn_blind, pre_ok (ar := .ref a :: vs.reverse) wf hR hS⟩
    have hrun : va_Run p l e R s m args below meth c H locs (msz μ - z0) (msl μ - y0) (msz μ1 - msz μ) (msl μ1 - msl μ) (F0 m pc Ls ((vs ++ .ref a :: st).map (cv (cad N0 ro) z))) (st.map (cv (cad N0 ro) z)) (Qcn N0 G ro z xs L r1 μ1 (Value.ref (cad N0 ro a) :: (vs.reverse).map (cv (cad N0 ro) z)).toArray) (fun q => N0 ≤ q) := by
      have hlen2 : ((vs.reverse).map (cv (cad N0 ro) z)).length = n := by simp [hvl]
      rw [hret0] at b6 k5
      split at o6
      · exact va_runI (n := n) (nL := t.2.2.1) ⟨hx, hb, hml, hown, hts⟩ (hcon l) ⟨⟨b1, b2, b3, b4, b5, b6, hts _ k5, hts _ k6, k2, hlen, hts _ (wis_g o6 rfl)⟩, hnm, hts _ (wis_g o4 rfl)⟩ hpre rfl hlen2 hL.1 hst (lv_room hw8) hd hf
      · exact va_runIN (n := n) (nL := t.2.2.1) ⟨hx, hb, hml, hown, hts⟩ (hcon l) ⟨⟨⟨b1, b2, b3, b4, b5, b6⟩, hts _ k5, hts _ k6, k2, hlen, va_Nw.use rfl (wf.2.2.2.2.2.2.2.1 _ (wis_in o6) rfl)⟩, hnm, hts _ (wis_g o4 rfl)⟩ hpre rfl hlen2 hL.1 hst (lv_room hw8) hd hf
    refine w_back hrun hS fun H1 locs1 hR1 hS1 => ?_
    have hk2 := hk H1 locs1 Ls hR1 hS1 hL (Nat.le_trans q1 hm0.1) (Nat.le_trans q2 hm0.2)
    rw [z1, z2]
    have e9 : (r1.map (cv (cad N0 ro) z)).toList ++ st.map (cv (cad N0 ro) z) = (r1.toList ++ st).map (cv (cad N0 ro) z) := by
      cases r1 <;> simp
    rw [e9]
    exact hk2
  · next rk n M cs p1 p2 p3 p4 p5 =>
    obtain ⟨ok6, o6⟩ := and2 ok5
    obtain ⟨o1, o2⟩ := and2 ok6
    split at o6
    · next o i x hw =>
      obtain ⟨o6, y9⟩ := and2 o6
      obtain ⟨o6, y8⟩ := and2 o6
      obtain ⟨o6, y7⟩ := and2 o6
      obtain ⟨o6, y6⟩ := and2 o6
      obtain ⟨o6, y5⟩ := and2 o6
      obtain ⟨o6, y4⟩ := and2 o6
      obtain ⟨o6, y3⟩ := and2 o6
      obtain ⟨y1, y2⟩ := and2 o6
      have y1 := of_decide_eq_true y1
      have y2 := of_decide_eq_true y2
      have y3 := of_decide_eq_true y3
      have y4 := of_decide_eq_true y4
      have y5 := of_decide_eq_true y5
      subst y1; subst y2
      have hlink := hts (.methodLink t.1.cls i x) (List.mem_filter.mpr ⟨List.mem_of_getElem? hw, rfl⟩)
      obtain ⟨hret, hlen, hM⟩ := vk_ret o1
      obtain ⟨pw, hpw⟩ := hok M hM
      obtain ⟨k1, k2, k3, k4, k5, k6⟩ := okMT_inv hpw
      obtain ⟨vs, st, hvl, rfl, h1⟩ := ppN_inv _ _ _ h
      obtain ⟨a, st, rfl, h1⟩ := ppR_inv h1
      obtain ⟨g, h2⟩ := gd_inv h1
      obtain ⟨gs, gc⟩ := and2 g
      have h13 : shp μ a < 13 := by have := Nat.le_of_ble_eq_true (List.all_eq_true.mp o2 _ (cin_mem gc)); omega
      obtain ⟨r1, μ1, hc, h3⟩ := bnd_inv h2
      rw [List.append_nil] at hc
      obtain ⟨hm, hk⟩ := hK _ _ _ h3
      obtain ⟨hm0, hcon⟩ := hC _ _ _ _ _ hM hc
      refine ⟨mle_tr hm0 hm, fun H locs Ls hR hS hL q1 q2 => ?_⟩
      have hw8 := slr_map (f := cad N0 ro) wf.1.2 gs
      obtain ⟨hf, z1, z2⟩ := room_ok hm0 hm q1 q2 hce hsl
      obtain ⟨b1, b2, b3, b4, b5, b6⟩ := c_base (μ := μ) (μ1 := μ1) cx0 hpw
      have hst : (vs ++ .ref a :: st).map (cv (cad N0 ro) z) = ((vs.reverse).map (cv (cad N0 ro) z)).reverse ++ .ref (cad N0 ro a) :: st.map (cv (cad N0 ro) z) := by simp [cv]
      obtain ⟨cellV, c1, c2, c3, c4⟩ := ob_cell wf hR h13
      obtain ⟨-, kC, hkC, -⟩ := c4
      have hrun : va_Run p l e R s m args below meth c H locs (msz μ - z0) (msl μ - y0) (msz μ1 - msz μ) (msl μ1 - msl μ) (F0 m pc Ls ((vs ++ .ref a :: st).map (cv (cad N0 ro) z))) (st.map (cv (cad N0 ro) z)) (Qcn N0 G ro z xs L r1 μ1 (Value.ref (cad N0 ro a) :: (vs.reverse).map (cv (cad N0 ro) z)).toArray) (fun q => N0 ≤ q) := by
        have hlen2 : ((vs.reverse).map (cv (cad N0 ro) z)).length = n := by simp [hvl]
        have hBK : Back l R p e below s args (mt M).1 3 8 (PreOf R (msz μ1 - msz μ) (msl μ1 - msl μ) (Pcn N0 G ro z xs L (.ref a :: vs.reverse) μ)) (PostOf (Qcn N0 G ro z xs L r1 μ1) (msz μ1 - msz μ) (msl μ1 - msl μ) (fun q => N0 ≤ q)) := back_of (bytes := (mt M).2.1) (maxL := (mt M).2.2.1) (ret := (mt M).2.2.2.1) (hcon l) pcn_blind b1 b2 b3 b4 b5 b6 (fun a' U hW => word_at hW (Or.inl (by first | rfl | simp [Cond.onTables, Cond.keeps, Cond.steady])) (hts _ k6))
        intro T hT X
        obtain ⟨v, vm₁, ⟨U', l2, c2', s2⟩, hW₁, X', ⟨g', mk, t', L1, e1, e2, hq, h1', hL1, h2', h3'⟩, st'⟩ := ex_callSU X hx (x := x) (y := (mt M).1) (bytes := (mt M).2.1) (maxL := (mt M).2.2.1) (ret := (mt M).2.2.2.1) hown hlink (by rw [y3, y4]) (hts _ (wis_g y6 rfl)) (hts _ (wis_g y7 rfl)) (by
            rcases Bool.or_eq_true_iff.mp y9 with y9 | y9
            · exact Or.inl (of_decide_eq_true y9)
            · exact Or.inr (hts _ (wis_g y9 rfl))) (hts _ (wis_g y8 rfl)) (hts _ k5) y5 hBK (b := cad N0 ro a) (by rw [hT]; exact c1) (by rw [c2]; rfl) hkC (g := F0 m pc Ls ((vs ++ .ref a :: st).map (cv (cad N0 ro) z))) rfl (hL.1.trans hml.symm) (argsL := (vs.reverse).map (cv (cad N0 ro) z)) (rest := st.map (cv (cad N0 ro) z)) (fun sig hs => hlen2.trans (hlen sig hs)) hst (lv_room hw8) (by rw [hb]; exact hd)
          (fun vm₁ hW₁ => ⟨hf.1, hf.2, pre_ok (ar := .ref a :: vs.reverse) wf hR hS (T.setVm vm₁) hT hW₁⟩)
        dsimp only [Pt.U, Pt.locs, Pt.cells, Pt.slots] at X' e1 e2 h1' h2' h3' st'
        subst h1'; subst h2'; subst h3'
        exact ⟨v, (T.setVm vm₁).calling g' mk (Value.ref (cad N0 ro a) :: (vs.reverse).map (cv (cad N0 ro) z)).toArray, t', U', L1, hT, X', hL1, e1, e2, hq, st'⟩
      refine w_back hrun hS fun H1 locs1 hR1 hS1 => ?_
      have hk2 := hk H1 locs1 Ls hR1 hS1 hL (Nat.le_trans q1 hm0.1) (Nat.le_trans q2 hm0.2)
      rw [z1, z2]
      have e9 : (r1.map (cv (cad N0 ro) z)).toList ++ st.map (cv (cad N0 ro) z) = (r1.toList ++ st).map (cv (cad N0 ro) z) := by
        cases r1 <;> simp
      rw [e9]
      exact hk2
    · cases o6
  · cases ok5
theorem s_invokevirtual {idx : Nat} (hok : ∀ M, M + 1 < allM.length → ∃ pw, okMT (mt M) pw = true) (hC : ∀ M ar μ r1 μ1, M + 1 < allM.length → C M ar μ = some (r1, μ1) → Con N0 G ro z xs L d M ar μ r1 μ1) (cx : Cx p R s m args meth c N0 G ro z xs L t d z0 y0 μ9) (ok : okI t (pc, .invokevirtual idx, len, as, ws) = true) (hK : ∀ ls st μ, K ls st μ = some (r, μ9) → Wk p l e R s m args below meth c Q N0 G ro z xs L t.2.2.1 z0 y0 μ9 (pc + len) ls st μ) (hJ : ∀ b ls st μ, J b ls st μ = some (r, μ9) → Wk p l e R s m args below meth c Q N0 G ro z xs L t.2.2.1 z0 y0 μ9 (bpc t b) ls st μ) (h : x1 C J (.invokevirtual idx) as ls st μ K = some (r, μ9)) : Wk p l e R s m args below meth c Q N0 G ro z xs L t.2.2.1 z0 y0 μ9 pc ls st μ := by
  have cx0 := cx
  obtain ⟨hx, hb, hml, hown, hts, hmn, wf, hfr, hlo, hce, hsl⟩ := cx
  unfold okI at ok
  dsimp only at ok
  obtain ⟨hd, ok3⟩ := and2 ok
  have hd := of_decide_eq_true hd
  obtain ⟨ok4, ok5⟩ := and2 ok3
  obtain rfl : len = 3 := Nat.eq_of_beq_eq_true ok4
  split at ok5
  · next rk n cs pl ps =>
    obtain ⟨o1, o6⟩ := and2 ok5
    split at o6
    · next o i x hw =>
      obtain ⟨o6, y5⟩ := and2 o6
      obtain ⟨o6, y4⟩ := and2 o6
      obtain ⟨o6, y3⟩ := and2 o6
      obtain ⟨y1, y2⟩ := and2 o6
      have y1 := of_decide_eq_true y1
      have y2 := of_decide_eq_true y2
      have y3 := of_decide_eq_true y3
      have y4 := of_decide_eq_true y4
      subst y1; subst y2
      have hlink := hts (.methodLink t.1.cls i x) (List.mem_filter.mpr ⟨List.mem_of_getElem? hw, rfl⟩)
      obtain ⟨vs, st, hvl, rfl, h1⟩ := ppN_inv _ _ _ h
      obtain ⟨a, st, rfl, h1⟩ := ppR_inv h1
      obtain ⟨gs, h2⟩ := gd_inv h1
      obtain ⟨M, h3, hMm, hrow⟩ := okD_inv _ _ y5 h2
      obtain ⟨hret, hlen, hM⟩ := vk_ret (List.all_eq_true.mp o1 _ hMm)
      obtain ⟨pw, hpw⟩ := hok M hM
      obtain ⟨k1, k2, k3, k4, k5, k6⟩ := okMT_inv hpw
      obtain ⟨r1, μ1, hc, h4⟩ := bnd_inv h3
      rw [List.append_nil] at hc
      obtain ⟨hm, hk⟩ := hK _ _ _ h4
      obtain ⟨hm0, hcon⟩ := hC _ _ _ _ _ hM hc
      refine ⟨mle_tr hm0 hm, fun H locs Ls hR hS hL q1 q2 => ?_⟩
      have hw8 := slr_map (f := cad N0 ro) wf.1.2 gs
      obtain ⟨hf, z1, z2⟩ := room_ok hm0 hm q1 q2 hce hsl
      obtain ⟨b1, b2, b3, b4, b5, b6⟩ := c_base (μ := μ) (μ1 := μ1) cx0 hpw
      have hst : (vs ++ .ref a :: st).map (cv (cad N0 ro) z) = ((vs.reverse).map (cv (cad N0 ro) z)).reverse ++ .ref (cad N0 ro a) :: st.map (cv (cad N0 ro) z) := by simp [cv]
      have hlen2 : ((vs.reverse).map (cv (cad N0 ro) z)).length = n := by simp [hvl]
      have hrun : va_Run p l e R s m args below meth c H locs (msz μ - z0) (msl μ - y0) (msz μ1 - msz μ) (msl μ1 - msl μ) (F0 m pc Ls ((vs ++ .ref a :: st).map (cv (cad N0 ro) z))) (st.map (cv (cad N0 ro) z)) (Qcn N0 G ro z xs L r1 μ1 (Value.ref (cad N0 ro a) :: (vs.reverse).map (cv (cad N0 ro) z)).toArray) (fun q => N0 ≤ q) := by
        rcases hrow with ⟨w0, w1, w2, w3, w4, w5⟩ | ⟨h13, Mo, w1, w2, w3, w4, w5, w6, w7, w8, w9⟩
        · rw [w1] at hlink w2 w3
          have hcl : ∃ cell : Cell, H[cad N0 ro a]? = some cell ∧ cell.vm.isStatics = false ∧ s.vm.findClass (match shp μ a with | 30 => "java/lang/String" | _ => clN (shp μ a)) = some cell.cls := by
            by_cases h30 : shp μ a = 30
            · rw [h30]
              obtain ⟨r1, r2⟩ := ro_at hR h30 (by omega) (by omega)
              have ha : a < 13 := by
                unfold roK at r2
                split at r2
                · assumption
                · split at r2
                  · omega
                  · split at r2 <;> omega
              obtain ⟨aK, aV, e1, e2, e3⟩ := wf.2.2.2.1 a ha
              have e5 : cad N0 ro a = aK 0 := by unfold cad; rw [if_pos r1, e1]
              rw [e5]
              exact vk_recv e3 (by decide) hS
            · have h13 : shp μ a < 13 := w0.elim id (fun q => absurd q h30)
              obtain ⟨cellV, c1, c2, c3, c4⟩ := ob_cell wf hR h13
              refine ⟨cellV, c1, by rw [c2]; rfl, ?_⟩
              split
              · next q => exact absurd q h30
              · exact c3
          exact va_runV (n := n) (nL := t.2.2.1) ⟨hx, hb, hml, hown, hts⟩ (hcon l) ⟨⟨b1, b2, b3, b4, b5, b6, hts _ k5, hts _ k6, k2, hlen, hlink⟩, hts _ w2, hts _ w3⟩ ⟨pcn_blind, hcl, pre_ok (ar := .ref a :: vs.reverse) wf hR hS⟩ rfl hlen2 hL.1 hst (lv_room hw8) hd hf
        · obtain ⟨pw2, hpw2⟩ := hok Mo w8
          obtain ⟨j1, j2, j3, j4, j5, j6⟩ := okMT_inv hpw2
          obtain ⟨cellV, c1, c2, c3, c4⟩ := ob_cell wf hR h13
          have hdecl : va_Decl s ⟨(mt Mo).1.cls, x.name, x.desc⟩ := by
            rw [w1, w2]
            exact va_Decl.of (hts _ w9) (hts _ j5)
          exact va_runU (n := n) (nL := t.2.2.1) ⟨hx, hb, hml, hown, hts⟩ (hcon l) ⟨⟨b1, b2, b3, b4, b5, b6⟩, hts _ k5, hts _ k6, j2, fun sig hs => by
            rw [hs] at w7
            cases hp : parseMethodDescriptor (mt M).1.desc with
            | none => rw [hp] at w7; cases w7
            | some sg =>
              rw [hp] at w7
              rw [hlen _ hp]
              exact (Option.some.inj w7).symm, hlink, hts _ w6, hdecl, hts _ w4, hts _ w3⟩ ⟨pcn_blind, ⟨cellV, c1, by rw [c2]; rfl, c3⟩, pre_ok (ar := .ref a :: vs.reverse) wf hR hS⟩ rfl hlen2 hL.1 hst (lv_room hw8) hd hf
      refine w_back hrun hS fun H1 locs1 hR1 hS1 => ?_
      have hk2 := hk H1 locs1 Ls hR1 hS1 hL (Nat.le_trans q1 hm0.1) (Nat.le_trans q2 hm0.2)
      rw [z1, z2]
      have e9 : (r1.map (cv (cad N0 ro) z)).toList ++ st.map (cv (cad N0 ro) z) = (r1.toList ++ st).map (cv (cad N0 ro) z) := by
        cases r1 <;> simp
      rw [e9]
      exact hk2
    · cases o6
  · cases ok5
end CALL2
