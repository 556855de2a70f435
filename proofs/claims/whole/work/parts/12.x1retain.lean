set_option maxHeartbeats 4000000 in
set_option maxRecDepth 100000 in
theorem c1_retain (l : Launch) (dC : Nat → ClassId) (dI : Nat → Nat → Nat) (cI cZ : ClassId) (bd : Nat → Nat) (sz : Nat) (sg st en du th : Nat) (yk yv yr yt yl yb yp yg : Nat → Int32) (x : Int32) (Bs : Nat → Nat) (hs : 1 ≤ sg) (hs2 : sg ≤ 4200) (hen : en ≤ 4200) (hdu : du ≤ 4200) (hbs : ∀ i, i < sg → yb i = nI (Bs i) ∧ Bs i ≤ 4200) (hso : ∀ i, i + 1 < sg → Bs i ≤ Bs (i + 1)) (hso0 : ∀ i, i < sg → Bs 0 ≤ Bs i) : Met l yX1_retain wsX1_retain ({ frames := 2, cells := 0, slots := 0, locals := 60 } : Room) (va_Pc [.ref (bd 0), .int x] (pr_w dC dI cI cZ (w1 cI cZ bd (sg, st, en, du, th, yk, yv, yr, yt, yl, yb, yp, yg)) sz)) (va_Qi (fun (r : Int32) (u : C1) => (x < 0 ∧ r = -1 ∧ u = (sg, st, en, du, th, yk, yv, yr, yt, yl, yb, yp, yg)) ∨ (∃ (M d : Nat) (zt zb : Nat → Int32), x = nI M ∧ M < 2 ^ 31 ∧ d < sg ∧ (∀ i, i < d → M ≤ cn yt (Bs (i + 1)) en) ∧ (d + 1 < sg → cn yt (Bs (d + 1)) en < M) ∧ zr yt zt (Bs 0) (Bs d) ∧ (∀ i, i < sg - d → zb i = nI (Bs (i + d))) ∧ r = nI (cn yt (Bs 0) (Bs d)) ∧ u = (sg - d, Bs d, en, max du (Bs d), th, yk, yv, yr, zt, yl, zb, yp, yg))) (at1 dC dI cI cZ bd (va_A (w1 cI cZ bd (sg, st, en, du, th, yk, yv, yr, yt, yl, yb, yp, yg)) sz)) (va_A (w1 cI cZ bd (sg, st, en, du, th, yk, yv, yr, yt, yl, yb, yp, yg)) sz)) 0 0 (va_A (w1 cI cZ bd (sg, st, en, du, th, yk, yv, yr, yt, yl, yb, yp, yg)) sz) := by
  refine Met.ofW (cc := cX1_retain) (maxL := 4) (ret := (some .int)) (by decide) rfl ?_
  intro p e s m args below meth c s₁ B hml hv
  obtain ⟨rfl, hsz, hP, hK, hD0⟩ := hv
  have hx := B.exec
  have hb := B.bytes
  have hr := B.returns
  have hts := atoms_spec (ws := wsX1_retain) B.pre
  have hown : s.vm.findClass RX1 = some m.cls := findClass_of_methodNamed B.named
  have hlocks := B.notSynchronized
  have h00 : ∀ w ∈ wsX10, w.before _ s = true := fun w h => hts w (List.mem_cons_of_mem _ (List.mem_append_right _ h))
  have L1 := hts (.fieldLink RX1 29 "SegmentLogModel" "segments" "I") (List.mem_of_getElem? (i := 1) rfl)
  have L2 := hts (.fieldLink RX1 26 "SegmentLogModel" "bases" "[I") (List.mem_of_getElem? (i := 2) rfl)
  have L3 := hts (.fieldLink RX1 48 "SegmentLogModel" "end" "I") (List.mem_of_getElem? (i := 3) rfl)
  have L4 := hts (.fieldLink RX1 20 "SegmentLogModel" "there" "[Z") (List.mem_of_getElem? (i := 4) rfl)
  have L5 := hts (.fieldLink RX1 51 "SegmentLogModel" "start" "I") (List.mem_of_getElem? (i := 5) rfl)
  have L6 := hts (.fieldLink RX1 64 "SegmentLogModel" "durable" "I") (List.mem_of_getElem? (i := 6) rfl)
  subst hsz
  have hD := hD0.self (sz := s.heap.size)
  generalize hAe : va_A (w1 cI cZ bd (sg, st, en, du, th, yk, yv, yr, yt, yl, yb, yp, yg)) s.heap.size = A at hD ⊢
  have hA : ∀ q : Nat, s.heap.size ≤ q → A q := fun q h => by rw [← hAe]; exact Or.inr h
  have hS : va_S A s.heap s.heap [] := va_S.rf
  have hP : va_P (dC, dI) vwCl (w1 cI cZ bd (sg, st, en, du, th, yk, yv, yr, yt, yl, yb, yp, yg)) s.heap := hP
  have hl := lv_entry ([.ref (bd 0), .int x]) (n := 4) (Nat.le_of_ble_eq_true rfl)
  rw [lg_entry_eq]
  generalize (lg_sl ([.ref (bd 0), .int x]) ++ List.replicate (4 - (lg_sl ([.ref (bd 0), .int x])).length) Slot.unset).toArray = ls at hl ⊢
  have hl : lv_has ls 4 [(0, .ref (bd 0)), (1, .int x)] := hl
  refine lv_iload_n hx hb dX1_retain_0 rfl (lv_at hl 1 rfl) ?_
  refine lv_if_ge (tgt := 6) hx hb dX1_retain_1 (by decide) (fun c1 => ?_) (fun c1 => ?_)
  · skip
    obtain ⟨M, hM, rfl⟩ := pk_ge0 (Int32.not_lt.mpr c1)
    refine lv_iconst (v := nI 0) hx hb dX1_retain_6 (by decide) ?_
    refine lv_istore_n (lv' := [(2, .int (nI 0)), (0, .ref (bd 0)), (1, .int (nI M))]) hx hb dX1_retain_7 rfl hl (by decide) rfl (fun ls hl => ?_)
    have tail : ∀ (d : Nat) (zt zb : Nat → Int32) (H : Heap) (locs : List Loc) (ls : Array Slot), d < sg → (∀ i, i < d → M ≤ cn yt (Bs (i + 1)) en) → zr yt zt (Bs 0) (Bs d) → (∀ i, i < sg - d → zb i = nI (Bs (i + d))) → (d + 1 < sg → cn yt (Bs (d + 1)) en < M) → va_P (dC, dI) vwCl (w1 cI cZ bd (sg - d, st, en, du, th, yk, yv, yr, zt, yl, zb, yp, yg)) H → va_D A (w1 cI cZ bd (sg - d, st, en, du, th, yk, yv, yr, zt, yl, zb, yp, yg)) → va_S A s.heap H locs → lv_has ls 4 [(2, .int (nI (cn yt (Bs 0) (Bs d)))), (0, .ref (bd 0)), (1, .int (nI M))] → W p l e (headSpec wsX1_retain ({ frames := 2, cells := 0, slots := 0, locals := 60 } : Room)).room s m ([.ref (bd 0), .int (nI M)] : List Value).toArray below meth c H locs 0 0 (MQ below (va_Qi (fun (r : Int32) (u : C1) => (nI M < 0 ∧ r = -1 ∧ u = (sg, st, en, du, th, yk, yv, yr, yt, yl, yb, yp, yg)) ∨ (∃ (M2 d : Nat) (zt zb : Nat → Int32), nI M = nI M2 ∧ M2 < 2 ^ 31 ∧ d < sg ∧ (∀ i, i < d → M2 ≤ cn yt (Bs (i + 1)) en) ∧ (d + 1 < sg → cn yt (Bs (d + 1)) en < M2) ∧ zr yt zt (Bs 0) (Bs d) ∧ (∀ i, i < sg - d → zb i = nI (Bs (i + d))) ∧ r = nI (cn yt (Bs 0) (Bs d)) ∧ u = (sg - d, Bs d, en, max du (Bs d), th, yk, yv, yr, zt, yl, zb, yp, yg))) (at1 dC dI cI cZ bd A) A) ([.ref (bd 0), .int (nI M)] : List Value).toArray s 0 0 A) (F0 m 126 ls []) := by
      intro d zt zb H locs ls q1 q2 q3 q4 q5 hP hD hS hl
      have hb0 : zb 0 = nI (Bs d) := by rw [q4 0 (by omega), Nat.zero_add]
      have hbd := (hbs d q1).2
      refine lv_aload_n hx hb dX1_retain_126 rfl (lv_at hl 1 rfl) ?_
      refine lv_aload_n hx hb dX1_retain_127 rfl (lv_at hl 1 rfl) ?_
      refine va_get (D := (dC, dI)) (ci := 1) (v := .ref (bd 6)) (C := RX1) (T := TX1) (N := 13) hx hb h00 (fun _ h => h) hown hK hP 0 rfl rfl 5 (by decide) L2 (fun _ h9 => h9) rfl dX1_retain_128 ?_
      refine lv_iconst (v := nI 0) hx hb dX1_retain_131 (by decide) ?_
      refine qa_iald (i := 0) hx hb hK hP 6 0 rfl rfl (by omega) (by decide) dX1_retain_132 ?_
      refine qa_top hb0 ?_
      refine va_put (D := (dC, dI)) (ci := 1) (v := .int (nI (Bs d))) (ty := .int) (C := RX1) (T := TX1) (N := 13) hx hb h00 (fun _ h => h) tyX1 tyX1_ok nmX1 hown hK hP hD hS 0 rfl rfl 7 (by decide) L5 (fun _ h9 => h9) rfl rfl rfl rfl (Nat.le_of_ble_eq_true rfl) dX1_retain_133 (fun H locs hP hD hS => ?_)
      have hP : va_P (dC, dI) vwCl (w1 cI cZ bd (sg - d, Bs d, en, du, th, yk, yv, yr, zt, yl, zb, yp, yg)) H := hP
      have hD : va_D A (w1 cI cZ bd (sg - d, Bs d, en, du, th, yk, yv, yr, zt, yl, zb, yp, yg)) := hD
      refine lv_aload_n hx hb dX1_retain_136 rfl (lv_at hl 1 rfl) ?_
      refine lv_aload_n hx hb dX1_retain_137 rfl (lv_at hl 1 rfl) ?_
      refine va_get (D := (dC, dI)) (ci := 1) (v := .int (nI du)) (C := RX1) (T := TX1) (N := 13) hx hb h00 (fun _ h => h) hown hK hP 0 rfl rfl 9 (by decide) L6 (fun _ h9 => h9) rfl dX1_retain_138 ?_
      refine lv_aload_n hx hb dX1_retain_141 rfl (lv_at hl 1 rfl) ?_
      refine va_get (D := (dC, dI)) (ci := 1) (v := .int (nI (Bs d))) (C := RX1) (T := TX1) (N := 13) hx hb h00 (fun _ h => h) hown hK hP 0 rfl rfl 7 (by decide) L5 (fun _ h9 => h9) rfl dX1_retain_142 ?_
      refine va_mmax hx hb (hml.trans hl.1.symm) hown (hts (.methodLink RX1 42 Lib.Math.max.name) (List.mem_of_getElem? (i := 7) rfl)) (hts (.static Lib.Math.max.name) (List.mem_of_getElem? (i := 8) rfl)) (hts (.initialized "java/lang/Math") (List.mem_of_getElem? (i := 9) rfl)) (hts (.code Lib.Math.max.name Lib.Math.max.code 2 (some .int)) (List.mem_of_getElem? (i := 10) rfl)) (by decide) (Nat.le_of_ble_eq_true rfl) (Nat.zero_le _) (Nat.zero_le _) dX1_retain_145 ?_
      refine qa_top (y := nI (max du (Bs d))) (q_max du (Bs d) (by omega) (by omega)) ?_
      refine va_put (D := (dC, dI)) (ci := 1) (v := .int (nI (max du (Bs d)))) (ty := .int) (C := RX1) (T := TX1) (N := 13) hx hb h00 (fun _ h => h) tyX1 tyX1_ok nmX1 hown hK hP hD hS 0 rfl rfl 9 (by decide) L6 (fun _ h9 => h9) rfl rfl rfl rfl (Nat.le_of_ble_eq_true rfl) dX1_retain_148 (fun H locs hP hD hS => ?_)
      have hP : va_P (dC, dI) vwCl (w1 cI cZ bd (sg - d, Bs d, en, max du (Bs d), th, yk, yv, yr, zt, yl, zb, yp, yg)) H := hP
      have hD : va_D A (w1 cI cZ bd (sg - d, Bs d, en, max du (Bs d), th, yk, yv, yr, zt, yl, zb, yp, yg)) := hD
      refine lv_iload_n hx hb dX1_retain_151 rfl (lv_at hl 0 rfl) ?_
      exact W.iret (v := nI (cn yt (Bs 0) (Bs d))) hx hb hr (fun t ht hW => ⟨⟨_, (sg - d, Bs d, en, max du (Bs d), th, yk, yv, yr, zt, yl, zb, yp, yg), rfl, Or.inr ⟨M, d, zt, zb, rfl, hM, q1, q2, q5, q3, q4, rfl, rfl⟩, by rw [ht]; exact hP, va_K.moved hW.alike hK, hD⟩, hS.F ht⟩) hS.2.2 dX1_retain_152
    have loop : ∀ (z d : Nat) (zt zb : Nat → Int32) (H : Heap) (locs : List Loc) (ls : Array Slot), sg ≤ d + z → d < sg → (∀ i, i < d → M ≤ cn yt (Bs (i + 1)) en) → zr yt zt (Bs 0) (Bs d) → (∀ i, i < sg - d → zb i = nI (Bs (i + d))) → va_P (dC, dI) vwCl (w1 cI cZ bd (sg - d, st, en, du, th, yk, yv, yr, zt, yl, zb, yp, yg)) H → va_D A (w1 cI cZ bd (sg - d, st, en, du, th, yk, yv, yr, zt, yl, zb, yp, yg)) → va_S A s.heap H locs → lv_has ls 4 [(2, .int (nI (cn yt (Bs 0) (Bs d)))), (0, .ref (bd 0)), (1, .int (nI M))] → W p l e (headSpec wsX1_retain ({ frames := 2, cells := 0, slots := 0, locals := 60 } : Room)).room s m ([.ref (bd 0), .int (nI M)] : List Value).toArray below meth c H locs 0 0 (MQ below (va_Qi (fun (r : Int32) (u : C1) => (nI M < 0 ∧ r = -1 ∧ u = (sg, st, en, du, th, yk, yv, yr, yt, yl, yb, yp, yg)) ∨ (∃ (M2 d : Nat) (zt zb : Nat → Int32), nI M = nI M2 ∧ M2 < 2 ^ 31 ∧ d < sg ∧ (∀ i, i < d → M2 ≤ cn yt (Bs (i + 1)) en) ∧ (d + 1 < sg → cn yt (Bs (d + 1)) en < M2) ∧ zr yt zt (Bs 0) (Bs d) ∧ (∀ i, i < sg - d → zb i = nI (Bs (i + d))) ∧ r = nI (cn yt (Bs 0) (Bs d)) ∧ u = (sg - d, Bs d, en, max du (Bs d), th, yk, yv, yr, zt, yl, zb, yp, yg))) (at1 dC dI cI cZ bd A) A) ([.ref (bd 0), .int (nI M)] : List Value).toArray s 0 0 A) (F0 m 8 ls []) := by
      intro z
      induction z with
      | zero => intro d zt zb H locs ls h1 h2; omega
      | succ z ih =>
        intro d zt zb H locs ls q0 q1 q2 q3 q4 hP hD hS hl
        have hb0 : zb 0 = nI (Bs d) := by rw [q4 0 (by omega), Nat.zero_add]
        have hbd := (hbs d q1).2
        refine lv_aload_n hx hb dX1_retain_8 rfl (lv_at hl 1 rfl) ?_
        refine va_get (D := (dC, dI)) (ci := 1) (v := .int (nI (sg - d))) (C := RX1) (T := TX1) (N := 13) hx hb h00 (fun _ h => h) hown hK hP 0 rfl rfl 6 (by decide) L1 (fun _ h9 => h9) rfl dX1_retain_9 ?_
        refine lv_iconst (v := nI 1) hx hb dX1_retain_12 (by decide) ?_
        refine lv_icmp_le (tgt := 126) hx hb dX1_retain_13 (by decide) (fun c2 => ?_) (fun c2 => ?_)
        · skip
          have hc := q_le (by omega) (by omega) c2
          exact tail d zt zb H locs ls q1 q2 q3 q4 (fun h => by omega) hP hD hS hl
        · skip
          have hc := q_nle (by omega) (by omega) c2
          have hb1 : zb 1 = nI (Bs (d + 1)) := by rw [q4 1 (by omega), Nat.add_comm]
          have hbd1 := (hbs (d + 1) (by omega)).2
          have hdd := hso d (by omega)
          have h0d := hso0 d q1
          have hcc : cn zt (Bs (d + 1)) en = cn yt (Bs (d + 1)) en := cn_congr (fun k k1 k2 => by rw [q3 k, if_neg (by omega)])
          have hcd : cn zt (Bs d) (Bs (d + 1)) = cn yt (Bs d) (Bs (d + 1)) := cn_congr (fun k k1 k2 => by rw [q3 k, if_neg (by omega)])
          refine lv_aload_n hx hb dX1_retain_16 rfl (lv_at hl 1 rfl) ?_
          refine lv_aload_n hx hb dX1_retain_17 rfl (lv_at hl 1 rfl) ?_
          refine va_get (D := (dC, dI)) (ci := 1) (v := .ref (bd 6)) (C := RX1) (T := TX1) (N := 13) hx hb h00 (fun _ h => h) hown hK hP 0 rfl rfl 5 (by decide) L2 (fun _ h9 => h9) rfl dX1_retain_18 ?_
          refine lv_iconst (v := nI 1) hx hb dX1_retain_21 (by decide) ?_
          refine qa_iald (i := 1) hx hb hK hP 6 0 rfl rfl (by omega) (by decide) dX1_retain_22 ?_
          refine qa_top hb1 ?_
          refine lv_aload_n hx hb dX1_retain_23 rfl (lv_at hl 1 rfl) ?_
          refine va_get (D := (dC, dI)) (ci := 1) (v := .int (nI en)) (C := RX1) (T := TX1) (N := 13) hx hb h00 (fun _ h => h) hown hK hP 0 rfl rfl 8 (by decide) L3 (fun _ h9 => h9) rfl dX1_retain_24 ?_
          refine vp_callSi (W.runV (As := [.int (nI (Bs (d + 1))), .int (nI en)]) (rest := []) ⟨hx, hb, hml, hown, hts⟩ (c1_count l dC dI cI cZ bd (sg - d) st en du th yk yv yr zt yl zb yp yg (Bs (d + 1)) en hbd1 hen) (cwV 2 hts gX1_retain_X1_count rfl rfl rfl (by decide +kernel) ⟨Nat.le_of_ble_eq_true rfl, Nat.le_of_ble_eq_true rfl⟩) ⟨bl_r, va_recv hK hP (ci := 1) (q0 := 0) rfl rfl, fun U hU hW => ⟨rfl, by rw [hU]; exact hP, va_K.moved hW.alike hK⟩⟩ rfl rfl hl.1 rfl (lv_room (Nat.le_of_ble_eq_true rfl)) dX1_retain_27 ⟨by decide, by decide⟩) (fun r1 hq => ?_)
          rw [hcc] at hq
          subst hq
          have hcl := cn_le yt (Bs (d + 1)) en
          refine lv_iload_n hx hb dX1_retain_30 rfl (lv_at hl 2 rfl) ?_
          refine lv_icmp_lt (tgt := 126) hx hb dX1_retain_31 (by decide) (fun c3 => ?_) (fun c3 => ?_)
          · skip
            exact tail d zt zb H locs ls q1 q2 q3 q4 (fun _ => q_lt (by omega) hM c3) hP hD hS hl
          · skip
            have hc3 := q_nlt (by omega) hM c3
            refine lv_iload_n hx hb dX1_retain_34 rfl (lv_at hl 0 rfl) ?_
            refine lv_aload_n hx hb dX1_retain_35 rfl (lv_at hl 1 rfl) ?_
            refine lv_aload_n hx hb dX1_retain_36 rfl (lv_at hl 1 rfl) ?_
            refine va_get (D := (dC, dI)) (ci := 1) (v := .ref (bd 6)) (C := RX1) (T := TX1) (N := 13) hx hb h00 (fun _ h => h) hown hK hP 0 rfl rfl 5 (by decide) L2 (fun _ h9 => h9) rfl dX1_retain_37 ?_
            refine lv_iconst (v := nI 0) hx hb dX1_retain_40 (by decide) ?_
            refine qa_iald (i := 0) hx hb hK hP 6 0 rfl rfl (by omega) (by decide) dX1_retain_41 ?_
            refine qa_top hb0 ?_
            refine lv_aload_n hx hb dX1_retain_42 rfl (lv_at hl 1 rfl) ?_
            refine va_get (D := (dC, dI)) (ci := 1) (v := .ref (bd 6)) (C := RX1) (T := TX1) (N := 13) hx hb h00 (fun _ h => h) hown hK hP 0 rfl rfl 5 (by decide) L2 (fun _ h9 => h9) rfl dX1_retain_43 ?_
            refine lv_iconst (v := nI 1) hx hb dX1_retain_46 (by decide) ?_
            refine qa_iald (i := 1) hx hb hK hP 6 0 rfl rfl (by omega) (by decide) dX1_retain_47 ?_
            refine qa_top hb1 ?_
            refine vp_callSi (W.runV (As := [.int (nI (Bs d)), .int (nI (Bs (d + 1)))]) (rest := [.int (nI (cn yt (Bs 0) (Bs d)))]) ⟨hx, hb, hml, hown, hts⟩ (c1_count l dC dI cI cZ bd (sg - d) st en du th yk yv yr zt yl zb yp yg (Bs d) (Bs (d + 1)) hbd hbd1) (cwV 2 hts gX1_retain_X1_count rfl rfl rfl (by decide +kernel) ⟨Nat.le_of_ble_eq_true rfl, Nat.le_of_ble_eq_true rfl⟩) ⟨bl_r, va_recv hK hP (ci := 1) (q0 := 0) rfl rfl, fun U hU hW => ⟨rfl, by rw [hU]; exact hP, va_K.moved hW.alike hK⟩⟩ rfl rfl hl.1 rfl (lv_room (Nat.le_of_ble_eq_true rfl)) dX1_retain_48 ⟨by decide, by decide⟩) (fun r2 hq => ?_)
            rw [hcd] at hq
            subst hq
            refine lv_iadd hx hb dX1_retain_51 ?_
            refine qa_top (nI_add (cn yt (Bs 0) (Bs d)) (cn yt (Bs d) (Bs (d + 1)))) ?_
            refine qa_top (congrArg nI (cn_add yt h0d hdd)) ?_
            refine lv_istore_n (lv' := [(2, .int (nI (cn yt (Bs 0) (Bs (d + 1))))), (0, .ref (bd 0)), (1, .int (nI M))]) hx hb dX1_retain_52 rfl hl (by decide) rfl (fun ls hl => ?_)
            refine lv_aload_n hx hb dX1_retain_53 rfl (lv_at hl 1 rfl) ?_
            refine va_get (D := (dC, dI)) (ci := 1) (v := .ref (bd 6)) (C := RX1) (T := TX1) (N := 13) hx hb h00 (fun _ h => h) hown hK hP 0 rfl rfl 5 (by decide) L2 (fun _ h9 => h9) rfl dX1_retain_54 ?_
            refine lv_iconst (v := nI 0) hx hb dX1_retain_57 (by decide) ?_
            refine qa_iald (i := 0) hx hb hK hP 6 0 rfl rfl (by omega) (by decide) dX1_retain_58 ?_
            refine qa_top hb0 ?_
            refine lv_istore_n (lv' := [(3, .int (nI (Bs d))), (2, .int (nI (cn yt (Bs 0) (Bs (d + 1))))), (0, .ref (bd 0)), (1, .int (nI M))]) hx hb dX1_retain_59 rfl hl (by decide) rfl (fun ls hl => ?_)
            have shift : ∀ (y i : Nat) (zt2 zb2 : Nat → Int32) (H : Heap) (locs : List Loc) (ls : Array Slot), sg - d + 1 ≤ i + y → 1 ≤ i → i ≤ sg - d → zr yt zt2 (Bs 0) (Bs (d + 1)) → dr zb zb2 0 1 i → va_P (dC, dI) vwCl (w1 cI cZ bd (sg - d, st, en, du, th, yk, yv, yr, zt2, yl, zb2, yp, yg)) H → va_D A (w1 cI cZ bd (sg - d, st, en, du, th, yk, yv, yr, zt2, yl, zb2, yp, yg)) → va_S A s.heap H locs → lv_has ls 4 [(3, .int (nI i)), (2, .int (nI (cn yt (Bs 0) (Bs (d + 1))))), (0, .ref (bd 0)), (1, .int (nI M))] → W p l e (headSpec wsX1_retain ({ frames := 2, cells := 0, slots := 0, locals := 60 } : Room)).room s m ([.ref (bd 0), .int (nI M)] : List Value).toArray below meth c H locs 0 0 (MQ below (va_Qi (fun (r : Int32) (u : C1) => (nI M < 0 ∧ r = -1 ∧ u = (sg, st, en, du, th, yk, yv, yr, yt, yl, yb, yp, yg)) ∨ (∃ (M2 d : Nat) (zt zb : Nat → Int32), nI M = nI M2 ∧ M2 < 2 ^ 31 ∧ d < sg ∧ (∀ i, i < d → M2 ≤ cn yt (Bs (i + 1)) en) ∧ (d + 1 < sg → cn yt (Bs (d + 1)) en < M2) ∧ zr yt zt (Bs 0) (Bs d) ∧ (∀ i, i < sg - d → zb i = nI (Bs (i + d))) ∧ r = nI (cn yt (Bs 0) (Bs d)) ∧ u = (sg - d, Bs d, en, max du (Bs d), th, yk, yv, yr, zt, yl, zb, yp, yg))) (at1 dC dI cI cZ bd A) A) ([.ref (bd 0), .int (nI M)] : List Value).toArray s 0 0 A) (F0 m 85 ls []) := by
              intro y
              induction y with
              | zero => intro i zt2 zb2 H locs ls h1 h2 h3; omega
              | succ y ih2 =>
                intro i zt2 zb2 H locs ls p1 p2 p3 p4 p5 hP hD hS hl
                refine lv_iload_n hx hb dX1_retain_85 rfl (lv_at hl 0 rfl) ?_
                refine lv_aload_n hx hb dX1_retain_86 rfl (lv_at hl 2 rfl) ?_
                refine va_get (D := (dC, dI)) (ci := 1) (v := .int (nI (sg - d))) (C := RX1) (T := TX1) (N := 13) hx hb h00 (fun _ h => h) hown hK hP 0 rfl rfl 6 (by decide) L1 (fun _ h9 => h9) rfl dX1_retain_87 ?_
                refine lv_icmp_ge (tgt := 113) hx hb dX1_retain_90 (by decide) (fun c4 => ?_) (fun c4 => ?_)
                · skip
                  have hi := q_le (by omega) (by omega) c4
                  have hi : i = sg - d := by omega
                  subst hi
                  refine lv_aload_n hx hb dX1_retain_113 rfl (lv_at hl 2 rfl) ?_
                  refine lv_aload_n hx hb dX1_retain_114 rfl (lv_at hl 2 rfl) ?_
                  refine va_get (D := (dC, dI)) (ci := 1) (v := .int (nI (sg - d))) (C := RX1) (T := TX1) (N := 13) hx hb h00 (fun _ h => h) hown hK hP 0 rfl rfl 6 (by decide) L1 (fun _ h9 => h9) rfl dX1_retain_115 ?_
                  refine lv_iconst (v := nI 1) hx hb dX1_retain_118 (by decide) ?_
                  refine lv_isub hx hb dX1_retain_119 ?_
                  refine qa_top (pk_sub (a := sg - d) (b := 1) (by omega)) ?_
                  refine va_put (D := (dC, dI)) (ci := 1) (v := .int (nI (sg - d - 1))) (ty := .int) (C := RX1) (T := TX1) (N := 13) hx hb h00 (fun _ h => h) tyX1 tyX1_ok nmX1 hown hK hP hD hS 0 rfl rfl 6 (by decide) L1 (fun _ h9 => h9) rfl rfl rfl rfl (Nat.le_of_ble_eq_true rfl) dX1_retain_120 (fun H locs hP hD hS => ?_)
                  have hP : va_P (dC, dI) vwCl (w1 cI cZ bd (sg - d - 1, st, en, du, th, yk, yv, yr, zt2, yl, zb2, yp, yg)) H := hP
                  have hD : va_D A (w1 cI cZ bd (sg - d - 1, st, en, du, th, yk, yv, yr, zt2, yl, zb2, yp, yg)) := hD
                  refine lv_goto (tgt := 8) hx hb dX1_retain_123 (by decide) ?_
                  have he9 : sg - d - 1 = sg - (d + 1) := by omega
                  rw [he9] at hP hD
                  refine ih (d + 1) zt2 zb2 _ _ ls (by omega) (by omega) (lt_s q2 hc3) p4 (fun q hq => ?_) hP hD hS (lv_sub hl [1, 2, 3] rfl)
                  rw [(p5 q).1 (by omega), if_neg (Nat.not_lt_zero q), q4 (q + 1) (by omega)]
                  congr 2; omega
                · skip
                  have hi := q_nle (by omega) (by omega) c4
                  refine lv_aload_n hx hb dX1_retain_93 rfl (lv_at hl 2 rfl) ?_
                  refine va_get (D := (dC, dI)) (ci := 1) (v := .ref (bd 6)) (C := RX1) (T := TX1) (N := 13) hx hb h00 (fun _ h => h) hown hK hP 0 rfl rfl 5 (by decide) L2 (fun _ h9 => h9) rfl dX1_retain_94 ?_
                  refine lv_iload_n hx hb dX1_retain_97 rfl (lv_at hl 0 rfl) ?_
                  refine lv_iconst (v := nI 1) hx hb dX1_retain_98 (by decide) ?_
                  refine lv_isub hx hb dX1_retain_99 ?_
                  refine qa_top (pk_sub (a := i) (b := 1) (by omega)) ?_
                  refine lv_aload_n hx hb dX1_retain_100 rfl (lv_at hl 2 rfl) ?_
                  refine va_get (D := (dC, dI)) (ci := 1) (v := .ref (bd 6)) (C := RX1) (T := TX1) (N := 13) hx hb h00 (fun _ h => h) hown hK hP 0 rfl rfl 5 (by decide) L2 (fun _ h9 => h9) rfl dX1_retain_101 ?_
                  refine lv_iload_n hx hb dX1_retain_104 rfl (lv_at hl 0 rfl) ?_
                  refine qa_iald (i := i) hx hb hK hP 6 0 rfl rfl (by omega) (by decide) dX1_retain_105 ?_
                  refine qa_iast (i := i - 1) hx hb hK hP hD hS 6 0 rfl rfl (by omega) (by decide) dX1_retain_106 (fun H locs hP hD hS => ?_)
                  have hP : va_P (dC, dI) vwCl (w1 cI cZ bd (sg - d, st, en, du, th, yk, yv, yr, zt2, yl, (upd zb2 (i - 1) (zb2 i)), yp, yg)) H := hP
                  have hD : va_D A (w1 cI cZ bd (sg - d, st, en, du, th, yk, yv, yr, zt2, yl, (upd zb2 (i - 1) (zb2 i)), yp, yg)) := hD
                  refine lv_iinc (v := nI (i + 1)) (lv' := [(3, .int (nI (i + 1))), (2, .int (nI (cn yt (Bs 0) (Bs (d + 1))))), (0, .ref (bd 0)), (1, .int (nI M))]) hx hb dX1_retain_107 hl (k := 0) rfl (qa_inc1 i) (by decide) rfl (fun ls hl => ?_)
                  refine lv_goto (tgt := 85) hx hb dX1_retain_110 (by decide) ?_
                  exact ih2 (i + 1) _ _ _ _ ls (by omega) (by omega) (by omega) p4 (dr_s p5 (by omega)) hP hD hS (lv_sub hl [0, 1, 2, 3] rfl)
            have clear : ∀ (y i : Nat) (zt2 : Nat → Int32) (H : Heap) (locs : List Loc) (ls : Array Slot), Bs (d + 1) + 1 ≤ i + y → Bs d ≤ i → i ≤ Bs (d + 1) → zr yt zt2 (Bs 0) i → va_P (dC, dI) vwCl (w1 cI cZ bd (sg - d, st, en, du, th, yk, yv, yr, zt2, yl, zb, yp, yg)) H → va_D A (w1 cI cZ bd (sg - d, st, en, du, th, yk, yv, yr, zt2, yl, zb, yp, yg)) → va_S A s.heap H locs → lv_has ls 4 [(3, .int (nI i)), (2, .int (nI (cn yt (Bs 0) (Bs (d + 1))))), (0, .ref (bd 0)), (1, .int (nI M))] → W p l e (headSpec wsX1_retain ({ frames := 2, cells := 0, slots := 0, locals := 60 } : Room)).room s m ([.ref (bd 0), .int (nI M)] : List Value).toArray below meth c H locs 0 0 (MQ below (va_Qi (fun (r : Int32) (u : C1) => (nI M < 0 ∧ r = -1 ∧ u = (sg, st, en, du, th, yk, yv, yr, yt, yl, yb, yp, yg)) ∨ (∃ (M2 d : Nat) (zt zb : Nat → Int32), nI M = nI M2 ∧ M2 < 2 ^ 31 ∧ d < sg ∧ (∀ i, i < d → M2 ≤ cn yt (Bs (i + 1)) en) ∧ (d + 1 < sg → cn yt (Bs (d + 1)) en < M2) ∧ zr yt zt (Bs 0) (Bs d) ∧ (∀ i, i < sg - d → zb i = nI (Bs (i + d))) ∧ r = nI (cn yt (Bs 0) (Bs d)) ∧ u = (sg - d, Bs d, en, max du (Bs d), th, yk, yv, yr, zt, yl, zb, yp, yg))) (at1 dC dI cI cZ bd A) A) ([.ref (bd 0), .int (nI M)] : List Value).toArray s 0 0 A) (F0 m 60 ls []) := by
              intro y
              induction y with
              | zero => intro i zt2 H locs ls h1 h2 h3; omega
              | succ y ih2 =>
                intro i zt2 H locs ls p1 p2 p3 p4 hP hD hS hl
                refine lv_iload_n hx hb dX1_retain_60 rfl (lv_at hl 0 rfl) ?_
                refine lv_aload_n hx hb dX1_retain_61 rfl (lv_at hl 2 rfl) ?_
                refine va_get (D := (dC, dI)) (ci := 1) (v := .ref (bd 6)) (C := RX1) (T := TX1) (N := 13) hx hb h00 (fun _ h => h) hown hK hP 0 rfl rfl 5 (by decide) L2 (fun _ h9 => h9) rfl dX1_retain_62 ?_
                refine lv_iconst (v := nI 1) hx hb dX1_retain_65 (by decide) ?_
                refine qa_iald (i := 1) hx hb hK hP 6 0 rfl rfl (by omega) (by decide) dX1_retain_66 ?_
                refine qa_top hb1 ?_
                refine lv_icmp_ge (tgt := 83) hx hb dX1_retain_67 (by decide) (fun c4 => ?_) (fun c4 => ?_)
                · skip
                  have hi := q_le (by omega) (by omega) c4
                  have hi : i = Bs (d + 1) := by omega
                  subst hi
                  refine lv_iconst (v := nI 1) hx hb dX1_retain_83 (by decide) ?_
                  refine lv_istore_n (lv' := [(3, .int (nI 1)), (2, .int (nI (cn yt (Bs 0) (Bs (d + 1))))), (0, .ref (bd 0)), (1, .int (nI M))]) hx hb dX1_retain_84 rfl hl (by decide) rfl (fun ls hl => ?_)
                  exact shift (sg - d) 1 zt2 zb _ _ ls (by omega) (by omega) (by omega) p4 (dr_0 (a := 0) (b := 1) (by omega)) hP hD hS (lv_sub hl [0, 1, 2, 3] rfl)
                · skip
                  have hi := q_nle (by omega) (by omega) c4
                  refine lv_aload_n hx hb dX1_retain_70 rfl (lv_at hl 2 rfl) ?_
                  refine va_get (D := (dC, dI)) (ci := 1) (v := .ref (bd 4)) (C := RX1) (T := TX1) (N := 13) hx hb h00 (fun _ h => h) hown hK hP 0 rfl rfl 3 (by decide) L4 (fun _ h9 => h9) rfl dX1_retain_71 ?_
                  refine lv_iload_n hx hb dX1_retain_74 rfl (lv_at hl 0 rfl) ?_
                  refine lv_iconst (v := nI 0) hx hb dX1_retain_75 (by decide) ?_
                  refine qa_zast (i := i) hx hb hK hP hD hS 4 1 rfl rfl (by omega) (by decide) (by decide) dX1_retain_76 (fun H locs hP hD hS => ?_)
                  have hP : va_P (dC, dI) vwCl (w1 cI cZ bd (sg - d, st, en, du, th, yk, yv, yr, (upd zt2 i (nI 0)), yl, zb, yp, yg)) H := hP
                  have hD : va_D A (w1 cI cZ bd (sg - d, st, en, du, th, yk, yv, yr, (upd zt2 i (nI 0)), yl, zb, yp, yg)) := hD
                  refine lv_iinc (v := nI (i + 1)) (lv' := [(3, .int (nI (i + 1))), (2, .int (nI (cn yt (Bs 0) (Bs (d + 1))))), (0, .ref (bd 0)), (1, .int (nI M))]) hx hb dX1_retain_77 hl (k := 0) rfl (qa_inc1 i) (by decide) rfl (fun ls hl => ?_)
                  refine lv_goto (tgt := 60) hx hb dX1_retain_80 (by decide) ?_
                  exact ih2 (i + 1) _ _ _ ls (by omega) (by omega) (by omega) (zr_s p4 (by omega)) hP hD hS (lv_sub hl [0, 1, 2, 3] rfl)
            exact clear (Bs (d + 1) + 1) (Bs d) zt _ _ ls (by omega) (Nat.le_refl _) hdd q3 hP hD hS (lv_sub hl [0, 1, 2, 3] rfl)
    have hl : lv_has ls 4 [(2, .int (nI (cn yt (Bs 0) (Bs 0)))), (0, .ref (bd 0)), (1, .int (nI M))] := by rw [cn_0 yt (Nat.le_refl _)]; exact hl
    exact loop sg 0 yt yb _ _ ls (by omega) hs (fun i h => absurd h (Nat.not_lt_zero i)) zr_0 (fun i h => (hbs i h).1) hP hD hS hl
  · skip
    refine lv_iconst (v := (-1)) hx hb dX1_retain_4 (by decide) ?_
    exact W.iret (v := (-1)) hx hb hr (fun t ht hW => ⟨⟨_, (sg, st, en, du, th, yk, yv, yr, yt, yl, yb, yp, yg), rfl, Or.inl ⟨Int32.not_le.mp c1, rfl, rfl⟩, by rw [ht]; exact hP, va_K.moved hW.alike hK, hD⟩, hS.F ht⟩) hS.2.2 dX1_retain_5
