/-- a row moved down by d from place a on: done up to place i -/
def dr (f g : Nat → Int32) (a d i : Nat) : Prop := ∀ q, (q < i - d → g q = f (if q < a then q else q + d)) ∧ (i ≤ q → g q = f q)
theorem dr_0 {f : Nat → Int32} {a b : Nat} (h : a ≤ b) : dr f f a (b - a) b := fun q => ⟨fun hq => by rw [if_pos (by omega)], fun _ => rfl⟩
theorem dr_s {f g : Nat → Int32} {a d i : Nat} (h : dr f g a d i) (h1 : a + d ≤ i) : dr f (upd g (i - d) (g i)) a d (i + 1) := fun q => by
  refine ⟨fun hq => ?_, fun hq => ?_⟩
  · by_cases e : q = i - d
    · subst e
      rw [pk_us, (h i).2 (Nat.le_refl i), if_neg (by omega)]
      congr 1; omega
    · rw [pk_un e]; exact (h q).1 (by omega)
  · rw [pk_un (by omega)]; exact (h q).2 (by omega)
/-- the values of a row of booleans -/
def nb (f : Nat → Int32) (n : Nat) : Prop := ∀ i, i < n → vp_nar .boolean (f i) = f i
set_option maxHeartbeats 4000000 in
set_option maxRecDepth 100000 in
theorem c0_openSegment (l : Launch) (dC : Nat → ClassId) (dI : Nat → Nat → Nat) (cI cZ : ClassId) (ad : Nat → Nat) (sz : Nat) (n sc st en du : Nat) (fo fk fv fr fc fb fp ft : Nat → Int32) (hs : sc ≤ 512) : Met l yX0_openSegment wsX0_openSegment ({ frames := 0, cells := 0, slots := 0, locals := 0 } : Room) (va_Pc [.ref (ad 0)] (pr_w dC dI cI cZ (w0 cI cZ ad (n, sc, st, en, du, fo, fk, fv, fr, fc, fb, fp, ft)) sz)) (va_Qv (fun u : C0 => u = (n, sc + 1, st, en, du, fo, fk, fv, fr, fc, upd fb sc (nI en), fp, ft)) (at0 dC dI cI cZ ad (va_A (w0 cI cZ ad (n, sc, st, en, du, fo, fk, fv, fr, fc, fb, fp, ft)) sz)) (va_A (w0 cI cZ ad (n, sc, st, en, du, fo, fk, fv, fr, fc, fb, fp, ft)) sz)) 0 0 (va_A (w0 cI cZ ad (n, sc, st, en, du, fo, fk, fv, fr, fc, fb, fp, ft)) sz) := by
  refine Met.ofW (cc := cX0_openSegment) (maxL := 1) (ret := none) (by decide) rfl ?_
  intro p e s m args below meth c s₁ B hml hv
  obtain ⟨rfl, hsz, hP, hK, hD0⟩ := hv
  have hx := B.exec
  have hb := B.bytes
  have hr := B.returns
  have hts := atoms_spec (ws := wsX0_openSegment) B.pre
  have hown : s.vm.findClass RX0 = some m.cls := findClass_of_methodNamed B.named
  have hlocks := B.notSynchronized
  have h00 : ∀ w ∈ wsX00, w.before _ s = true := fun w h => hts w (List.mem_cons_of_mem _ (List.mem_append_right _ h))
  have L1 := hts (.fieldLink RX0 33 "SegmentLog" "segmentCount" "I") (List.mem_of_getElem? (i := 1) rfl)
  have L2 := hts (.fieldLink RX0 30 "SegmentLog" "bases" "[I") (List.mem_of_getElem? (i := 2) rfl)
  have L3 := hts (.fieldLink RX0 45 "SegmentLog" "endOffset" "I") (List.mem_of_getElem? (i := 3) rfl)
  subst hsz
  have hD := hD0.self (sz := s.heap.size)
  generalize hAe : va_A (w0 cI cZ ad (n, sc, st, en, du, fo, fk, fv, fr, fc, fb, fp, ft)) s.heap.size = A at hD ⊢
  have hA : ∀ q : Nat, s.heap.size ≤ q → A q := fun q h => by rw [← hAe]; exact Or.inr h
  have hS : va_S A s.heap s.heap [] := va_S.rf
  have hP : va_P (dC, dI) vwCl (w0 cI cZ ad (n, sc, st, en, du, fo, fk, fv, fr, fc, fb, fp, ft)) s.heap := hP
  have hl := lv_entry ([.ref (ad 0)]) (n := 1) (Nat.le_of_ble_eq_true rfl)
  rw [lg_entry_eq]
  generalize (lg_sl ([.ref (ad 0)]) ++ List.replicate (1 - (lg_sl ([.ref (ad 0)])).length) Slot.unset).toArray = ls at hl ⊢
  have hl : lv_has ls 1 [(0, .ref (ad 0))] := hl
  refine lv_aload_n hx hb dX0_openSegment_0 rfl (lv_at hl 0 rfl) ?_
  refine va_get (D := (dC, dI)) (ci := 0) (v := .int (nI sc)) (C := RX0) (T := TX0) (N := 13) hx hb h00 (fun _ h => h) hown hK hP 0 rfl rfl 7 (by decide) L1 (fun _ h9 => h9) rfl dX0_openSegment_1 ?_
  refine lv_sipush (v := nI 513) hx hb dX0_openSegment_4 (by decide) ?_
  refine lv_icmp_ge (tgt := 33) hx hb dX0_openSegment_7 (by decide) (fun c1 => ?_) (fun c1 => ?_)
  · skip
    exact absurd (q_le (by omega) (by omega) c1) (by omega)
  · skip
    refine lv_aload_n hx hb dX0_openSegment_10 rfl (lv_at hl 0 rfl) ?_
    refine va_get (D := (dC, dI)) (ci := 0) (v := .ref (ad 6)) (C := RX0) (T := TX0) (N := 13) hx hb h00 (fun _ h => h) hown hK hP 0 rfl rfl 6 (by decide) L2 (fun _ h9 => h9) rfl dX0_openSegment_11 ?_
    refine lv_aload_n hx hb dX0_openSegment_14 rfl (lv_at hl 0 rfl) ?_
    refine va_get (D := (dC, dI)) (ci := 0) (v := .int (nI sc)) (C := RX0) (T := TX0) (N := 13) hx hb h00 (fun _ h => h) hown hK hP 0 rfl rfl 7 (by decide) L1 (fun _ h9 => h9) rfl dX0_openSegment_15 ?_
    refine lv_aload_n hx hb dX0_openSegment_18 rfl (lv_at hl 0 rfl) ?_
    refine va_get (D := (dC, dI)) (ci := 0) (v := .int (nI en)) (C := RX0) (T := TX0) (N := 13) hx hb h00 (fun _ h => h) hown hK hP 0 rfl rfl 11 (by decide) L3 (fun _ h9 => h9) rfl dX0_openSegment_19 ?_
    refine qa_iast (i := sc) hx hb hK hP hD hS 6 0 rfl rfl (by omega) (by decide) dX0_openSegment_22 (fun H locs hP hD hS => ?_)
    have hP : va_P (dC, dI) vwCl (w0 cI cZ ad (n, sc, st, en, du, fo, fk, fv, fr, fc, (upd fb sc (nI en)), fp, ft)) H := hP
    have hD : va_D A (w0 cI cZ ad (n, sc, st, en, du, fo, fk, fv, fr, fc, (upd fb sc (nI en)), fp, ft)) := hD
    refine lv_aload_n hx hb dX0_openSegment_23 rfl (lv_at hl 0 rfl) ?_
    refine lv_dup hx hb dX0_openSegment_24 rfl ?_
    refine va_get (D := (dC, dI)) (ci := 0) (v := .int (nI sc)) (C := RX0) (T := TX0) (N := 13) hx hb h00 (fun _ h => h) hown hK hP 0 rfl rfl 7 (by decide) L1 (fun _ h9 => h9) rfl dX0_openSegment_25 ?_
    refine lv_iconst (v := nI 1) hx hb dX0_openSegment_28 (by decide) ?_
    refine lv_iadd hx hb dX0_openSegment_29 ?_
    refine qa_top (nI_add sc 1) ?_
    refine va_put (D := (dC, dI)) (ci := 0) (v := .int (nI (sc + 1))) (ty := .int) (C := RX0) (T := TX0) (N := 13) hx hb h00 (fun _ h => h) tyX0 tyX0_ok nmX0 hown hK hP hD hS 0 rfl rfl 7 (by decide) L1 (fun _ h9 => h9) rfl rfl rfl rfl (Nat.le_of_ble_eq_true rfl) dX0_openSegment_30 (fun H locs hP hD hS => ?_)
    have hP : va_P (dC, dI) vwCl (w0 cI cZ ad (n, sc + 1, st, en, du, fo, fk, fv, fr, fc, (upd fb sc (nI en)), fp, ft)) H := hP
    have hD : va_D A (w0 cI cZ ad (n, sc + 1, st, en, du, fo, fk, fv, fr, fc, (upd fb sc (nI en)), fp, ft)) := hD
    exact W.vret hx hb hr (fun t ht hW => ⟨⟨(n, sc + 1, st, en, du, fo, fk, fv, fr, fc, (upd fb sc (nI en)), fp, ft), rfl, rfl, by rw [ht]; exact hP, va_K.moved hW.alike hK, hD⟩, hS.F ht⟩) hS.2.2 dX0_openSegment_33
set_option maxHeartbeats 4000000 in
set_option maxRecDepth 100000 in
theorem c0_moveRecord (l : Launch) (dC : Nat → ClassId) (dI : Nat → Nat → Nat) (cI cZ : ClassId) (ad : Nat → Nat) (sz : Nat) (n sc st en du : Nat) (fo fk fv fr fc fb fp ft : Nat → Int32) (i j : Nat) (hi : i < 60) (hj : j < 60) (h1 : vp_nar .boolean (fr i) = fr i) (h2 : vp_nar .boolean (fc i) = fc i) : Met l yX0_moveRecord wsX0_moveRecord ({ frames := 0, cells := 0, slots := 0, locals := 0 } : Room) (va_Pc [.ref (ad 0), .int (nI i), .int (nI j)] (pr_w dC dI cI cZ (w0 cI cZ ad (n, sc, st, en, du, fo, fk, fv, fr, fc, fb, fp, ft)) sz)) (va_Qv (fun u : C0 => u = (n, sc, st, en, du, upd fo j (fo i), upd fk j (fk i), upd fv j (fv i), upd fr j (fr i), upd fc j (fc i), fb, fp, ft)) (at0 dC dI cI cZ ad (va_A (w0 cI cZ ad (n, sc, st, en, du, fo, fk, fv, fr, fc, fb, fp, ft)) sz)) (va_A (w0 cI cZ ad (n, sc, st, en, du, fo, fk, fv, fr, fc, fb, fp, ft)) sz)) 0 0 (va_A (w0 cI cZ ad (n, sc, st, en, du, fo, fk, fv, fr, fc, fb, fp, ft)) sz) := by
  refine Met.ofW (cc := cX0_moveRecord) (maxL := 3) (ret := none) (by decide) rfl ?_
  intro p e s m args below meth c s₁ B hml hv
  obtain ⟨rfl, hsz, hP, hK, hD0⟩ := hv
  have hx := B.exec
  have hb := B.bytes
  have hr := B.returns
  have hts := atoms_spec (ws := wsX0_moveRecord) B.pre
  have hown : s.vm.findClass RX0 = some m.cls := findClass_of_methodNamed B.named
  have hlocks := B.notSynchronized
  have h00 : ∀ w ∈ wsX00, w.before _ s = true := fun w h => hts w (List.mem_cons_of_mem _ (List.mem_append_right _ h))
  have L1 := hts (.fieldLink RX0 9 "SegmentLog" "offsets" "[I") (List.mem_of_getElem? (i := 1) rfl)
  have L2 := hts (.fieldLink RX0 13 "SegmentLog" "keys" "[I") (List.mem_of_getElem? (i := 2) rfl)
  have L3 := hts (.fieldLink RX0 16 "SegmentLog" "values" "[I") (List.mem_of_getElem? (i := 3) rfl)
  have L4 := hts (.fieldLink RX0 19 "SegmentLog" "removals" "[Z") (List.mem_of_getElem? (i := 4) rfl)
  have L5 := hts (.fieldLink RX0 23 "SegmentLog" "cleaned" "[Z") (List.mem_of_getElem? (i := 5) rfl)
  subst hsz
  have hD := hD0.self (sz := s.heap.size)
  generalize hAe : va_A (w0 cI cZ ad (n, sc, st, en, du, fo, fk, fv, fr, fc, fb, fp, ft)) s.heap.size = A at hD ⊢
  have hA : ∀ q : Nat, s.heap.size ≤ q → A q := fun q h => by rw [← hAe]; exact Or.inr h
  have hS : va_S A s.heap s.heap [] := va_S.rf
  have hP : va_P (dC, dI) vwCl (w0 cI cZ ad (n, sc, st, en, du, fo, fk, fv, fr, fc, fb, fp, ft)) s.heap := hP
  have hl := lv_entry ([.ref (ad 0), .int (nI i), .int (nI j)]) (n := 3) (Nat.le_of_ble_eq_true rfl)
  rw [lg_entry_eq]
  generalize (lg_sl ([.ref (ad 0), .int (nI i), .int (nI j)]) ++ List.replicate (3 - (lg_sl ([.ref (ad 0), .int (nI i), .int (nI j)])).length) Slot.unset).toArray = ls at hl ⊢
  have hl : lv_has ls 3 [(0, .ref (ad 0)), (1, .int (nI i)), (2, .int (nI j))] := hl
  refine lv_aload_n hx hb dX0_moveRecord_0 rfl (lv_at hl 0 rfl) ?_
  refine va_get (D := (dC, dI)) (ci := 0) (v := .ref (ad 1)) (C := RX0) (T := TX0) (N := 13) hx hb h00 (fun _ h => h) hown hK hP 0 rfl rfl 0 (by decide) L1 (fun _ h9 => h9) rfl dX0_moveRecord_1 ?_
  refine lv_iload_n hx hb dX0_moveRecord_4 rfl (lv_at hl 2 rfl) ?_
  refine lv_aload_n hx hb dX0_moveRecord_5 rfl (lv_at hl 0 rfl) ?_
  refine va_get (D := (dC, dI)) (ci := 0) (v := .ref (ad 1)) (C := RX0) (T := TX0) (N := 13) hx hb h00 (fun _ h => h) hown hK hP 0 rfl rfl 0 (by decide) L1 (fun _ h9 => h9) rfl dX0_moveRecord_6 ?_
  refine lv_iload_n hx hb dX0_moveRecord_9 rfl (lv_at hl 1 rfl) ?_
  refine qa_iald (i := i) hx hb hK hP 1 0 rfl rfl (by omega) (by decide) dX0_moveRecord_10 ?_
  refine qa_iast (i := j) hx hb hK hP hD hS 1 0 rfl rfl (by omega) (by decide) dX0_moveRecord_11 (fun H locs hP hD hS => ?_)
  have hP : va_P (dC, dI) vwCl (w0 cI cZ ad (n, sc, st, en, du, (upd fo j (fo i)), fk, fv, fr, fc, fb, fp, ft)) H := hP
  have hD : va_D A (w0 cI cZ ad (n, sc, st, en, du, (upd fo j (fo i)), fk, fv, fr, fc, fb, fp, ft)) := hD
  refine lv_aload_n hx hb dX0_moveRecord_12 rfl (lv_at hl 0 rfl) ?_
  refine va_get (D := (dC, dI)) (ci := 0) (v := .ref (ad 2)) (C := RX0) (T := TX0) (N := 13) hx hb h00 (fun _ h => h) hown hK hP 0 rfl rfl 1 (by decide) L2 (fun _ h9 => h9) rfl dX0_moveRecord_13 ?_
  refine lv_iload_n hx hb dX0_moveRecord_16 rfl (lv_at hl 2 rfl) ?_
  refine lv_aload_n hx hb dX0_moveRecord_17 rfl (lv_at hl 0 rfl) ?_
  refine va_get (D := (dC, dI)) (ci := 0) (v := .ref (ad 2)) (C := RX0) (T := TX0) (N := 13) hx hb h00 (fun _ h => h) hown hK hP 0 rfl rfl 1 (by decide) L2 (fun _ h9 => h9) rfl dX0_moveRecord_18 ?_
  refine lv_iload_n hx hb dX0_moveRecord_21 rfl (lv_at hl 1 rfl) ?_
  refine qa_iald (i := i) hx hb hK hP 2 0 rfl rfl (by omega) (by decide) dX0_moveRecord_22 ?_
  refine qa_iast (i := j) hx hb hK hP hD hS 2 0 rfl rfl (by omega) (by decide) dX0_moveRecord_23 (fun H locs hP hD hS => ?_)
  have hP : va_P (dC, dI) vwCl (w0 cI cZ ad (n, sc, st, en, du, (upd fo j (fo i)), (upd fk j (fk i)), fv, fr, fc, fb, fp, ft)) H := hP
  have hD : va_D A (w0 cI cZ ad (n, sc, st, en, du, (upd fo j (fo i)), (upd fk j (fk i)), fv, fr, fc, fb, fp, ft)) := hD
  refine lv_aload_n hx hb dX0_moveRecord_24 rfl (lv_at hl 0 rfl) ?_
  refine va_get (D := (dC, dI)) (ci := 0) (v := .ref (ad 3)) (C := RX0) (T := TX0) (N := 13) hx hb h00 (fun _ h => h) hown hK hP 0 rfl rfl 2 (by decide) L3 (fun _ h9 => h9) rfl dX0_moveRecord_25 ?_
  refine lv_iload_n hx hb dX0_moveRecord_28 rfl (lv_at hl 2 rfl) ?_
  refine lv_aload_n hx hb dX0_moveRecord_29 rfl (lv_at hl 0 rfl) ?_
  refine va_get (D := (dC, dI)) (ci := 0) (v := .ref (ad 3)) (C := RX0) (T := TX0) (N := 13) hx hb h00 (fun _ h => h) hown hK hP 0 rfl rfl 2 (by decide) L3 (fun _ h9 => h9) rfl dX0_moveRecord_30 ?_
  refine lv_iload_n hx hb dX0_moveRecord_33 rfl (lv_at hl 1 rfl) ?_
  refine qa_iald (i := i) hx hb hK hP 3 0 rfl rfl (by omega) (by decide) dX0_moveRecord_34 ?_
  refine qa_iast (i := j) hx hb hK hP hD hS 3 0 rfl rfl (by omega) (by decide) dX0_moveRecord_35 (fun H locs hP hD hS => ?_)
  have hP : va_P (dC, dI) vwCl (w0 cI cZ ad (n, sc, st, en, du, (upd fo j (fo i)), (upd fk j (fk i)), (upd fv j (fv i)), fr, fc, fb, fp, ft)) H := hP
  have hD : va_D A (w0 cI cZ ad (n, sc, st, en, du, (upd fo j (fo i)), (upd fk j (fk i)), (upd fv j (fv i)), fr, fc, fb, fp, ft)) := hD
  refine lv_aload_n hx hb dX0_moveRecord_36 rfl (lv_at hl 0 rfl) ?_
  refine va_get (D := (dC, dI)) (ci := 0) (v := .ref (ad 4)) (C := RX0) (T := TX0) (N := 13) hx hb h00 (fun _ h => h) hown hK hP 0 rfl rfl 3 (by decide) L4 (fun _ h9 => h9) rfl dX0_moveRecord_37 ?_
  refine lv_iload_n hx hb dX0_moveRecord_40 rfl (lv_at hl 2 rfl) ?_
  refine lv_aload_n hx hb dX0_moveRecord_41 rfl (lv_at hl 0 rfl) ?_
  refine va_get (D := (dC, dI)) (ci := 0) (v := .ref (ad 4)) (C := RX0) (T := TX0) (N := 13) hx hb h00 (fun _ h => h) hown hK hP 0 rfl rfl 3 (by decide) L4 (fun _ h9 => h9) rfl dX0_moveRecord_42 ?_
  refine lv_iload_n hx hb dX0_moveRecord_45 rfl (lv_at hl 1 rfl) ?_
  refine qa_zald (i := i) hx hb hK hP 4 1 rfl rfl (by omega) (by decide) dX0_moveRecord_46 ?_
  refine qa_zast (i := j) hx hb hK hP hD hS 4 1 rfl rfl (by omega) (by decide) h1 dX0_moveRecord_47 (fun H locs hP hD hS => ?_)
  have hP : va_P (dC, dI) vwCl (w0 cI cZ ad (n, sc, st, en, du, (upd fo j (fo i)), (upd fk j (fk i)), (upd fv j (fv i)), (upd fr j (fr i)), fc, fb, fp, ft)) H := hP
  have hD : va_D A (w0 cI cZ ad (n, sc, st, en, du, (upd fo j (fo i)), (upd fk j (fk i)), (upd fv j (fv i)), (upd fr j (fr i)), fc, fb, fp, ft)) := hD
  refine lv_aload_n hx hb dX0_moveRecord_48 rfl (lv_at hl 0 rfl) ?_
  refine va_get (D := (dC, dI)) (ci := 0) (v := .ref (ad 5)) (C := RX0) (T := TX0) (N := 13) hx hb h00 (fun _ h => h) hown hK hP 0 rfl rfl 4 (by decide) L5 (fun _ h9 => h9) rfl dX0_moveRecord_49 ?_
  refine lv_iload_n hx hb dX0_moveRecord_52 rfl (lv_at hl 2 rfl) ?_
  refine lv_aload_n hx hb dX0_moveRecord_53 rfl (lv_at hl 0 rfl) ?_
  refine va_get (D := (dC, dI)) (ci := 0) (v := .ref (ad 5)) (C := RX0) (T := TX0) (N := 13) hx hb h00 (fun _ h => h) hown hK hP 0 rfl rfl 4 (by decide) L5 (fun _ h9 => h9) rfl dX0_moveRecord_54 ?_
  refine lv_iload_n hx hb dX0_moveRecord_57 rfl (lv_at hl 1 rfl) ?_
  refine qa_zald (i := i) hx hb hK hP 5 1 rfl rfl (by omega) (by decide) dX0_moveRecord_58 ?_
  refine qa_zast (i := j) hx hb hK hP hD hS 5 1 rfl rfl (by omega) (by decide) h2 dX0_moveRecord_59 (fun H locs hP hD hS => ?_)
  have hP : va_P (dC, dI) vwCl (w0 cI cZ ad (n, sc, st, en, du, (upd fo j (fo i)), (upd fk j (fk i)), (upd fv j (fv i)), (upd fr j (fr i)), (upd fc j (fc i)), fb, fp, ft)) H := hP
  have hD : va_D A (w0 cI cZ ad (n, sc, st, en, du, (upd fo j (fo i)), (upd fk j (fk i)), (upd fv j (fv i)), (upd fr j (fr i)), (upd fc j (fc i)), fb, fp, ft)) := hD
  exact W.vret hx hb hr (fun t ht hW => ⟨⟨(n, sc, st, en, du, (upd fo j (fo i)), (upd fk j (fk i)), (upd fv j (fv i)), (upd fr j (fr i)), (upd fc j (fc i)), fb, fp, ft), rfl, rfl, by rw [ht]; exact hP, va_K.moved hW.alike hK, hD⟩, hS.F ht⟩) hS.2.2 dX0_moveRecord_60
set_option maxHeartbeats 4000000 in
set_option maxRecDepth 100000 in
theorem c0_dropRecords (l : Launch) (dC : Nat → ClassId) (dI : Nat → Nat → Nat) (cI cZ : ClassId) (ad : Nat → Nat) (sz : Nat) (n sc st en du : Nat) (fo fk fv fr fc fb fp ft : Nat → Int32) (a b : Nat) (ha : a ≤ b) (hbn : b ≤ n) (hn : n ≤ 60) (h1 : ∀ i, b ≤ i → i < n → vp_nar .boolean (fr i) = fr i) (h2 : ∀ i, b ≤ i → i < n → vp_nar .boolean (fc i) = fc i) : Met l yX0_dropRecords wsX0_dropRecords ({ frames := 1, cells := 0, slots := 0, locals := 30 } : Room) (va_Pc [.ref (ad 0), .int (nI a), .int (nI b)] (pr_w dC dI cI cZ (w0 cI cZ ad (n, sc, st, en, du, fo, fk, fv, fr, fc, fb, fp, ft)) sz)) (va_Qi (fun (r : Int32) (u : C0) => r = nI (b - a) ∧ ∃ go gk gv gr gc : Nat → Int32, u = (n - (b - a), sc, st, en, du, go, gk, gv, gr, gc, fb, fp, ft) ∧ dr fo go a (b - a) n ∧ dr fk gk a (b - a) n ∧ dr fv gv a (b - a) n ∧ dr fr gr a (b - a) n ∧ dr fc gc a (b - a) n) (at0 dC dI cI cZ ad (va_A (w0 cI cZ ad (n, sc, st, en, du, fo, fk, fv, fr, fc, fb, fp, ft)) sz)) (va_A (w0 cI cZ ad (n, sc, st, en, du, fo, fk, fv, fr, fc, fb, fp, ft)) sz)) 0 0 (va_A (w0 cI cZ ad (n, sc, st, en, du, fo, fk, fv, fr, fc, fb, fp, ft)) sz) := by
  refine Met.ofW (cc := cX0_dropRecords) (maxL := 5) (ret := (some .int)) (by decide) rfl ?_
  intro p e s m args below meth c s₁ B hml hv
  obtain ⟨rfl, hsz, hP, hK, hD0⟩ := hv
  have hx := B.exec
  have hb := B.bytes
  have hr := B.returns
  have hts := atoms_spec (ws := wsX0_dropRecords) B.pre
  have hown : s.vm.findClass RX0 = some m.cls := findClass_of_methodNamed B.named
  have hlocks := B.notSynchronized
  have h00 : ∀ w ∈ wsX00, w.before _ s = true := fun w h => hts w (List.mem_cons_of_mem _ (List.mem_append_right _ h))
  have L1 := hts (.fieldLink RX0 26 "SegmentLog" "recordCount" "I") (List.mem_of_getElem? (i := 1) rfl)
  subst hsz
  have hD := hD0.self (sz := s.heap.size)
  generalize hAe : va_A (w0 cI cZ ad (n, sc, st, en, du, fo, fk, fv, fr, fc, fb, fp, ft)) s.heap.size = A at hD ⊢
  have hA : ∀ q : Nat, s.heap.size ≤ q → A q := fun q h => by rw [← hAe]; exact Or.inr h
  have hS : va_S A s.heap s.heap [] := va_S.rf
  have hP : va_P (dC, dI) vwCl (w0 cI cZ ad (n, sc, st, en, du, fo, fk, fv, fr, fc, fb, fp, ft)) s.heap := hP
  have hl := lv_entry ([.ref (ad 0), .int (nI a), .int (nI b)]) (n := 5) (Nat.le_of_ble_eq_true rfl)
  rw [lg_entry_eq]
  generalize (lg_sl ([.ref (ad 0), .int (nI a), .int (nI b)]) ++ List.replicate (5 - (lg_sl ([.ref (ad 0), .int (nI a), .int (nI b)])).length) Slot.unset).toArray = ls at hl ⊢
  have hl : lv_has ls 5 [(0, .ref (ad 0)), (1, .int (nI a)), (2, .int (nI b))] := hl
  refine lv_iload_n hx hb dX0_dropRecords_0 rfl (lv_at hl 2 rfl) ?_
  refine lv_iload_n hx hb dX0_dropRecords_1 rfl (lv_at hl 1 rfl) ?_
  refine lv_isub hx hb dX0_dropRecords_2 ?_
  refine qa_top (pk_sub (a := b) (b := a) (by omega)) ?_
  refine lv_istore_n (lv' := [(3, .int (nI (b - a))), (0, .ref (ad 0)), (1, .int (nI a)), (2, .int (nI b))]) hx hb dX0_dropRecords_3 rfl hl (by decide) rfl (fun ls hl => ?_)
  refine lv_iload_n hx hb dX0_dropRecords_4 rfl (lv_at hl 3 rfl) ?_
  refine lv_istore (lv' := [(4, .int (nI b)), (3, .int (nI (b - a))), (0, .ref (ad 0)), (1, .int (nI a)), (2, .int (nI b))]) hx hb dX0_dropRecords_5 hl (by decide) rfl (fun ls hl => ?_)
  have loop : ∀ (k i : Nat) (go gk gv gr gc : Nat → Int32) (H : Heap) (locs : List Loc) (ls : Array Slot), n + 1 ≤ i + k → b ≤ i → i ≤ n → dr fo go a (b - a) i → dr fk gk a (b - a) i → dr fv gv a (b - a) i → dr fr gr a (b - a) i → dr fc gc a (b - a) i → va_P (dC, dI) vwCl (w0 cI cZ ad (n, sc, st, en, du, go, gk, gv, gr, gc, fb, fp, ft)) H → va_D A (w0 cI cZ ad (n, sc, st, en, du, go, gk, gv, gr, gc, fb, fp, ft)) → va_S A s.heap H locs → lv_has ls 5 [(4, .int (nI i)), (3, .int (nI (b - a))), (0, .ref (ad 0)), (1, .int (nI a)), (2, .int (nI b))] → W p l e (headSpec wsX0_dropRecords ({ frames := 1, cells := 0, slots := 0, locals := 30 } : Room)).room s m ([.ref (ad 0), .int (nI a), .int (nI b)] : List Value).toArray below meth c H locs 0 0 (MQ below (va_Qi (fun (r : Int32) (u : C0) => r = nI (b - a) ∧ ∃ go gk gv gr gc : Nat → Int32, u = (n - (b - a), sc, st, en, du, go, gk, gv, gr, gc, fb, fp, ft) ∧ dr fo go a (b - a) n ∧ dr fk gk a (b - a) n ∧ dr fv gv a (b - a) n ∧ dr fr gr a (b - a) n ∧ dr fc gc a (b - a) n) (at0 dC dI cI cZ ad A) A) ([.ref (ad 0), .int (nI a), .int (nI b)] : List Value).toArray s 0 0 A) (F0 m 7 ls []) := by
    intro k
    induction k with
    | zero => intro i go gk gv gr gc H locs ls h1 h2 h3; omega
    | succ k ih =>
      intro i go gk gv gr gc H locs ls q1 q2 q3 e1 e2 e3 e4 e5 hP hD hS hl
      refine lv_iload hx hb dX0_dropRecords_7 (lv_at hl 0 rfl) ?_
      refine lv_aload_n hx hb dX0_dropRecords_9 rfl (lv_at hl 2 rfl) ?_
      refine va_get (D := (dC, dI)) (ci := 0) (v := .int (nI n)) (C := RX0) (T := TX0) (N := 13) hx hb h00 (fun _ h => h) hown hK hP 0 rfl rfl 5 (by decide) L1 (fun _ h9 => h9) rfl dX0_dropRecords_10 ?_
      refine lv_icmp_ge (tgt := 32) hx hb dX0_dropRecords_13 (by decide) (fun c1 => ?_) (fun c1 => ?_)
      · skip
        have hi := q_le (by omega) (by omega) c1
        have hi : i = n := by omega
        subst hi
        refine lv_aload_n hx hb dX0_dropRecords_32 rfl (lv_at hl 2 rfl) ?_
        refine lv_dup hx hb dX0_dropRecords_33 rfl ?_
        refine va_get (D := (dC, dI)) (ci := 0) (v := .int (nI i)) (C := RX0) (T := TX0) (N := 13) hx hb h00 (fun _ h => h) hown hK hP 0 rfl rfl 5 (by decide) L1 (fun _ h9 => h9) rfl dX0_dropRecords_34 ?_
        refine lv_iload_n hx hb dX0_dropRecords_37 rfl (lv_at hl 1 rfl) ?_
        refine lv_isub hx hb dX0_dropRecords_38 ?_
        refine qa_top (pk_sub (a := i) (b := b - a) (by omega)) ?_
        refine va_put (D := (dC, dI)) (ci := 0) (v := .int (nI (i - (b - a)))) (ty := .int) (C := RX0) (T := TX0) (N := 13) hx hb h00 (fun _ h => h) tyX0 tyX0_ok nmX0 hown hK hP hD hS 0 rfl rfl 5 (by decide) L1 (fun _ h9 => h9) rfl rfl rfl rfl (Nat.le_of_ble_eq_true rfl) dX0_dropRecords_39 (fun H locs hP hD hS => ?_)
        have hP : va_P (dC, dI) vwCl (w0 cI cZ ad (i - (b - a), sc, st, en, du, go, gk, gv, gr, gc, fb, fp, ft)) H := hP
        have hD : va_D A (w0 cI cZ ad (i - (b - a), sc, st, en, du, go, gk, gv, gr, gc, fb, fp, ft)) := hD
        refine lv_iload_n hx hb dX0_dropRecords_42 rfl (lv_at hl 1 rfl) ?_
        exact W.iret (v := nI (b - a)) hx hb hr (fun t ht hW => ⟨⟨_, (i - (b - a), sc, st, en, du, go, gk, gv, gr, gc, fb, fp, ft), rfl, ⟨rfl, go, gk, gv, gr, gc, rfl, e1, e2, e3, e4, e5⟩, by rw [ht]; exact hP, va_K.moved hW.alike hK, hD⟩, hS.F ht⟩) hS.2.2 dX0_dropRecords_43
      · skip
        have hi : i < n := q_nle (by omega) (by omega) c1
        refine lv_aload_n hx hb dX0_dropRecords_16 rfl (lv_at hl 2 rfl) ?_
        refine lv_iload hx hb dX0_dropRecords_17 (lv_at hl 0 rfl) ?_
        refine lv_iload hx hb dX0_dropRecords_19 (lv_at hl 0 rfl) ?_
        refine lv_iload_n hx hb dX0_dropRecords_21 rfl (lv_at hl 1 rfl) ?_
        refine lv_isub hx hb dX0_dropRecords_22 ?_
        refine qa_top (pk_sub (a := i) (b := b - a) (by omega)) ?_
        have hFc := va_free (wc := w0 cI cZ ad (n, sc, st, en, du, go, gk, gv, gr, gc, fb, fp, ft)) hD hS hA [0, 1, 2, 3, 4, 5, 6, 7, 8] rfl
        refine va_callv (va_runV (As := [.int (nI i), .int (nI (i - (b - a)))]) (rest := []) ⟨hx, hb, hml, hown, hts⟩ (c0_moveRecord l dC dI cI cZ ad H.size n sc st en du go gk gv gr gc fb fp ft i (i - (b - a)) (by omega) (by omega) (by rw [(e4 i).2 (Nat.le_refl i)]; exact h1 i q2 hi) (by rw [(e5 i).2 (Nat.le_refl i)]; exact h2 i q2 hi)) (cwV 2 hts gX0_dropRecords_X0_moveRecord rfl rfl rfl (by decide +kernel) ⟨Nat.le_of_ble_eq_true rfl, Nat.le_of_ble_eq_true rfl⟩) ⟨bl_w, va_recv hK hP (ci := 0) (q0 := 0) rfl rfl, fun U hU hW => ⟨rfl, by rw [hU], by rw [hU]; exact hP, va_K.moved hW.alike hK, hD.weaken (fun _ _ _ _ => trivial)⟩⟩ rfl rfl hl.1 rfl (lv_room (Nat.le_of_ble_eq_true rfl)) dX0_dropRecords_23 ⟨by decide, by decide⟩) hS (fun q _ h => hFc q h) hFc (fun u t H1 locs ht hvm hq hB hz1 hk1 hS => ?_)
        obtain ⟨n2, sc2, st2, en2, du2, fo2, fk2, fv2, fr2, fc2, fb2, fp2, ft2⟩ := u
        obtain ⟨hP1, hK1, hD1⟩ := hB
        rw [ht] at hP1
        try dsimp only at hq
        have hD1 := hD1.weaken (B := A) (fun k q _ h => hFc q.1 h)
        generalize H1 = H at hP1 hS ⊢
        have hP : va_P (dC, dI) vwCl (w0 cI cZ ad (n2, sc2, st2, en2, du2, fo2, fk2, fv2, fr2, fc2, fb2, fp2, ft2)) H := hP1
        have hD : va_D A (w0 cI cZ ad (n2, sc2, st2, en2, du2, fo2, fk2, fv2, fr2, fc2, fb2, fp2, ft2)) := hD1
        cases hq
        refine lv_iinc (v := nI (i + 1)) (lv' := [(4, .int (nI (i + 1))), (3, .int (nI (b - a))), (0, .ref (ad 0)), (1, .int (nI a)), (2, .int (nI b))]) hx hb dX0_dropRecords_26 hl (k := 0) rfl (qa_inc1 i) (by decide) rfl (fun ls hl => ?_)
        refine lv_goto (tgt := 7) hx hb dX0_dropRecords_29 (by decide) ?_
        exact ih (i + 1) _ _ _ _ _ _ _ ls (by omega) (by omega) (by omega) (dr_s e1 (by omega)) (dr_s e2 (by omega)) (dr_s e3 (by omega)) (dr_s e4 (by omega)) (dr_s e5 (by omega)) hP hD hS (lv_sub hl [0, 1, 2, 3, 4] rfl)
  exact loop (n + 1) b fo fk fv fr fc s.heap [] ls (by omega) (Nat.le_refl b) hbn (dr_0 ha) (dr_0 ha) (dr_0 ha) (dr_0 ha) (dr_0 ha) hP hD hS (lv_sub hl [0, 1, 2, 3, 4] rfl)
set_option maxHeartbeats 4000000 in
set_option maxRecDepth 100000 in
theorem c0_dropFirstSegments (l : Launch) (dC : Nat → ClassId) (dI : Nat → Nat → Nat) (cI cZ : ClassId) (ad : Nat → Nat) (sz : Nat) (n sc st en du : Nat) (fo fk fv fr fc fb fp ft : Nat → Int32) (a : Nat) (ha : a ≤ sc) (hs : sc ≤ 513) : Met l yX0_dropFirstSegments wsX0_dropFirstSegments ({ frames := 0, cells := 0, slots := 0, locals := 0 } : Room) (va_Pc [.ref (ad 0), .int (nI a)] (pr_w dC dI cI cZ (w0 cI cZ ad (n, sc, st, en, du, fo, fk, fv, fr, fc, fb, fp, ft)) sz)) (va_Qv (fun u : C0 => ∃ gb : Nat → Int32, u = (n, sc - a, st, en, du, fo, fk, fv, fr, fc, gb, fp, ft) ∧ dr fb gb 0 a sc) (at0 dC dI cI cZ ad (va_A (w0 cI cZ ad (n, sc, st, en, du, fo, fk, fv, fr, fc, fb, fp, ft)) sz)) (va_A (w0 cI cZ ad (n, sc, st, en, du, fo, fk, fv, fr, fc, fb, fp, ft)) sz)) 0 0 (va_A (w0 cI cZ ad (n, sc, st, en, du, fo, fk, fv, fr, fc, fb, fp, ft)) sz) := by
  refine Met.ofW (cc := cX0_dropFirstSegments) (maxL := 3) (ret := none) (by decide) rfl ?_
  intro p e s m args below meth c s₁ B hml hv
  obtain ⟨rfl, hsz, hP, hK, hD0⟩ := hv
  have hx := B.exec
  have hb := B.bytes
  have hr := B.returns
  have hts := atoms_spec (ws := wsX0_dropFirstSegments) B.pre
  have hown : s.vm.findClass RX0 = some m.cls := findClass_of_methodNamed B.named
  have hlocks := B.notSynchronized
  have h00 : ∀ w ∈ wsX00, w.before _ s = true := fun w h => hts w (List.mem_cons_of_mem _ (List.mem_append_right _ h))
  have L1 := hts (.fieldLink RX0 33 "SegmentLog" "segmentCount" "I") (List.mem_of_getElem? (i := 1) rfl)
  have L2 := hts (.fieldLink RX0 30 "SegmentLog" "bases" "[I") (List.mem_of_getElem? (i := 2) rfl)
  subst hsz
  have hD := hD0.self (sz := s.heap.size)
  generalize hAe : va_A (w0 cI cZ ad (n, sc, st, en, du, fo, fk, fv, fr, fc, fb, fp, ft)) s.heap.size = A at hD ⊢
  have hA : ∀ q : Nat, s.heap.size ≤ q → A q := fun q h => by rw [← hAe]; exact Or.inr h
  have hS : va_S A s.heap s.heap [] := va_S.rf
  have hP : va_P (dC, dI) vwCl (w0 cI cZ ad (n, sc, st, en, du, fo, fk, fv, fr, fc, fb, fp, ft)) s.heap := hP
  have hl := lv_entry ([.ref (ad 0), .int (nI a)]) (n := 3) (Nat.le_of_ble_eq_true rfl)
  rw [lg_entry_eq]
  generalize (lg_sl ([.ref (ad 0), .int (nI a)]) ++ List.replicate (3 - (lg_sl ([.ref (ad 0), .int (nI a)])).length) Slot.unset).toArray = ls at hl ⊢
  have hl : lv_has ls 3 [(0, .ref (ad 0)), (1, .int (nI a))] := hl
  refine lv_iload_n hx hb dX0_dropFirstSegments_0 rfl (lv_at hl 1 rfl) ?_
  refine lv_istore_n (lv' := [(2, .int (nI a)), (0, .ref (ad 0)), (1, .int (nI a))]) hx hb dX0_dropFirstSegments_1 rfl hl (by decide) rfl (fun ls hl => ?_)
  have loop : ∀ (k i : Nat) (gb : Nat → Int32) (H : Heap) (locs : List Loc) (ls : Array Slot), sc + 1 ≤ i + k → a ≤ i → i ≤ sc → dr fb gb 0 a i → va_P (dC, dI) vwCl (w0 cI cZ ad (n, sc, st, en, du, fo, fk, fv, fr, fc, gb, fp, ft)) H → va_D A (w0 cI cZ ad (n, sc, st, en, du, fo, fk, fv, fr, fc, gb, fp, ft)) → va_S A s.heap H locs → lv_has ls 3 [(2, .int (nI i)), (0, .ref (ad 0)), (1, .int (nI a))] → W p l e (headSpec wsX0_dropFirstSegments ({ frames := 0, cells := 0, slots := 0, locals := 0 } : Room)).room s m ([.ref (ad 0), .int (nI a)] : List Value).toArray below meth c H locs 0 0 (MQ below (va_Qv (fun u : C0 => ∃ gb : Nat → Int32, u = (n, sc - a, st, en, du, fo, fk, fv, fr, fc, gb, fp, ft) ∧ dr fb gb 0 a sc) (at0 dC dI cI cZ ad A) A) ([.ref (ad 0), .int (nI a)] : List Value).toArray s 0 0 A) (F0 m 2 ls []) := by
    intro k
    induction k with
    | zero => intro i gb H locs ls h1 h2 h3; omega
    | succ k ih =>
      intro i gb H locs ls q1 q2 q3 e1 hP hD hS hl
      refine lv_iload_n hx hb dX0_dropFirstSegments_2 rfl (lv_at hl 0 rfl) ?_
      refine lv_aload_n hx hb dX0_dropFirstSegments_3 rfl (lv_at hl 1 rfl) ?_
      refine va_get (D := (dC, dI)) (ci := 0) (v := .int (nI sc)) (C := RX0) (T := TX0) (N := 13) hx hb h00 (fun _ h => h) hown hK hP 0 rfl rfl 7 (by decide) L1 (fun _ h9 => h9) rfl dX0_dropFirstSegments_4 ?_
      refine lv_icmp_ge (tgt := 30) hx hb dX0_dropFirstSegments_7 (by decide) (fun c1 => ?_) (fun c1 => ?_)
      · skip
        have hi := q_le (by omega) (by omega) c1
        have hi : i = sc := by omega
        subst hi
        refine lv_aload_n hx hb dX0_dropFirstSegments_30 rfl (lv_at hl 1 rfl) ?_
        refine lv_dup hx hb dX0_dropFirstSegments_31 rfl ?_
        refine va_get (D := (dC, dI)) (ci := 0) (v := .int (nI i)) (C := RX0) (T := TX0) (N := 13) hx hb h00 (fun _ h => h) hown hK hP 0 rfl rfl 7 (by decide) L1 (fun _ h9 => h9) rfl dX0_dropFirstSegments_32 ?_
        refine lv_iload_n hx hb dX0_dropFirstSegments_35 rfl (lv_at hl 2 rfl) ?_
        refine lv_isub hx hb dX0_dropFirstSegments_36 ?_
        refine qa_top (pk_sub (a := i) (b := a) (by omega)) ?_
        refine va_put (D := (dC, dI)) (ci := 0) (v := .int (nI (i - a))) (ty := .int) (C := RX0) (T := TX0) (N := 13) hx hb h00 (fun _ h => h) tyX0 tyX0_ok nmX0 hown hK hP hD hS 0 rfl rfl 7 (by decide) L1 (fun _ h9 => h9) rfl rfl rfl rfl (Nat.le_of_ble_eq_true rfl) dX0_dropFirstSegments_37 (fun H locs hP hD hS => ?_)
        have hP : va_P (dC, dI) vwCl (w0 cI cZ ad (n, i - a, st, en, du, fo, fk, fv, fr, fc, gb, fp, ft)) H := hP
        have hD : va_D A (w0 cI cZ ad (n, i - a, st, en, du, fo, fk, fv, fr, fc, gb, fp, ft)) := hD
        exact W.vret hx hb hr (fun t ht hW => ⟨⟨(n, i - a, st, en, du, fo, fk, fv, fr, fc, gb, fp, ft), rfl, ⟨gb, rfl, e1⟩, by rw [ht]; exact hP, va_K.moved hW.alike hK, hD⟩, hS.F ht⟩) hS.2.2 dX0_dropFirstSegments_40
      · skip
        have hi : i < sc := q_nle (by omega) (by omega) c1
        refine lv_aload_n hx hb dX0_dropFirstSegments_10 rfl (lv_at hl 1 rfl) ?_
        refine va_get (D := (dC, dI)) (ci := 0) (v := .ref (ad 6)) (C := RX0) (T := TX0) (N := 13) hx hb h00 (fun _ h => h) hown hK hP 0 rfl rfl 6 (by decide) L2 (fun _ h9 => h9) rfl dX0_dropFirstSegments_11 ?_
        refine lv_iload_n hx hb dX0_dropFirstSegments_14 rfl (lv_at hl 0 rfl) ?_
        refine lv_iload_n hx hb dX0_dropFirstSegments_15 rfl (lv_at hl 2 rfl) ?_
        refine lv_isub hx hb dX0_dropFirstSegments_16 ?_
        refine qa_top (pk_sub (a := i) (b := a) (by omega)) ?_
        refine lv_aload_n hx hb dX0_dropFirstSegments_17 rfl (lv_at hl 1 rfl) ?_
        refine va_get (D := (dC, dI)) (ci := 0) (v := .ref (ad 6)) (C := RX0) (T := TX0) (N := 13) hx hb h00 (fun _ h => h) hown hK hP 0 rfl rfl 6 (by decide) L2 (fun _ h9 => h9) rfl dX0_dropFirstSegments_18 ?_
        refine lv_iload_n hx hb dX0_dropFirstSegments_21 rfl (lv_at hl 0 rfl) ?_
        refine qa_iald (i := i) hx hb hK hP 6 0 rfl rfl (by omega) (by decide) dX0_dropFirstSegments_22 ?_
        refine qa_iast (i := i - a) hx hb hK hP hD hS 6 0 rfl rfl (by omega) (by decide) dX0_dropFirstSegments_23 (fun H locs hP hD hS => ?_)
        have hP : va_P (dC, dI) vwCl (w0 cI cZ ad (n, sc, st, en, du, fo, fk, fv, fr, fc, (upd gb (i - a) (gb i)), fp, ft)) H := hP
        have hD : va_D A (w0 cI cZ ad (n, sc, st, en, du, fo, fk, fv, fr, fc, (upd gb (i - a) (gb i)), fp, ft)) := hD
        refine lv_iinc (v := nI (i + 1)) (lv' := [(2, .int (nI (i + 1))), (0, .ref (ad 0)), (1, .int (nI a))]) hx hb dX0_dropFirstSegments_24 hl (k := 0) rfl (qa_inc1 i) (by decide) rfl (fun ls hl => ?_)
        refine lv_goto (tgt := 2) hx hb dX0_dropFirstSegments_27 (by decide) ?_
        exact ih (i + 1) _ _ _ ls (by omega) (by omega) (by omega) (dr_s e1 (by omega)) hP hD hS (lv_sub hl [0, 1, 2] rfl)
  exact loop (sc + 1) a fb s.heap [] ls (by omega) (Nat.le_refl a) ha (dr_0 (a := 0) (b := a) (Nat.zero_le a)) hP hD hS (lv_sub hl [0, 1, 2] rfl)
/-- what a record's appending does: behind the segment's fifth it rolls -/
def adp (x v ρ : Int32) (bl : Nat) (r : Int32) (u0 u : C0) : Prop := match u0 with
  | (n, sc, st, en, du, fo, fk, fv, fr, fc, fb, fp, ft) =>
    (∃ κ, κ < 16 ∧ x = nI κ ∧ n < 60 ∧ r = nI en ∧ ((en + 1 = bl + 5 ∧ u = (n + 1, sc + 1, st, en + 1, du, upd fo n (nI en), upd fk n (nI κ), upd fv n v, upd fr n ρ, upd fc n (nI 0), upd fb sc (nI (en + 1)), fp, ft)) ∨ (¬ en + 1 = bl + 5 ∧ u = (n + 1, sc, st, en + 1, du, upd fo n (nI en), upd fk n (nI κ), upd fv n v, upd fr n ρ, upd fc n (nI 0), fb, fp, ft))))
    ∨ (∃ κ, κ < 16 ∧ x = nI κ ∧ 60 ≤ n ∧ r = -2 ∧ u = u0)
    ∨ ((∀ κ, κ < 16 → ¬ x = nI κ) ∧ r = -1 ∧ u = u0)
theorem q_no16 {x : Int32} (h : x < 0 ∨ nI 16 ≤ x) : ∀ κ, κ < 16 → ¬ x = nI κ := fun κ hκ e => by
  subst e
  rcases h with h | h
  · exact nI_pos (by omega) h
  · have := q_le (by omega) (by omega) h
    omega
set_option maxHeartbeats 4000000 in
set_option maxRecDepth 100000 in
theorem c0_addRecord (l : Launch) (dC : Nat → ClassId) (dI : Nat → Nat → Nat) (cI cZ : ClassId) (ad : Nat → Nat) (sz : Nat) (n sc st en du : Nat) (fo fk fv fr fc fb fp ft : Nat → Int32) (x v ρ : Int32) (bl : Nat) (hs : 1 ≤ sc) (hs2 : sc ≤ 512) (hn : n ≤ 60) (hen : en ≤ 600) (hρ : vp_nar .boolean ρ = ρ) (hbl : fb (sc - 1) = nI bl) (hbe : bl ≤ en) : Met l yX0_addRecord wsX0_addRecord ({ frames := 1, cells := 0, slots := 0, locals := 30 } : Room) (va_Pc [.ref (ad 0), .int x, .int v, .int (ρ)] (pr_w dC dI cI cZ (w0 cI cZ ad (n, sc, st, en, du, fo, fk, fv, fr, fc, fb, fp, ft)) sz)) (va_Qi (fun (r : Int32) (u : C0) => adp x v ρ bl r (n, sc, st, en, du, fo, fk, fv, fr, fc, fb, fp, ft) u) (at0 dC dI cI cZ ad (va_A (w0 cI cZ ad (n, sc, st, en, du, fo, fk, fv, fr, fc, fb, fp, ft)) sz)) (va_A (w0 cI cZ ad (n, sc, st, en, du, fo, fk, fv, fr, fc, fb, fp, ft)) sz)) 0 0 (va_A (w0 cI cZ ad (n, sc, st, en, du, fo, fk, fv, fr, fc, fb, fp, ft)) sz) := by
  refine Met.ofW (cc := cX0_addRecord) (maxL := 5) (ret := (some .int)) (by decide) rfl ?_
  intro p e s m args below meth c s₁ B hml hv
  obtain ⟨rfl, hsz, hP, hK, hD0⟩ := hv
  have hx := B.exec
  have hb := B.bytes
  have hr := B.returns
  have hts := atoms_spec (ws := wsX0_addRecord) B.pre
  have hown : s.vm.findClass RX0 = some m.cls := findClass_of_methodNamed B.named
  have hlocks := B.notSynchronized
  have h00 : ∀ w ∈ wsX00, w.before _ s = true := fun w h => hts w (List.mem_cons_of_mem _ (List.mem_append_right _ h))
  have L1 := hts (.fieldLink RX0 26 "SegmentLog" "recordCount" "I") (List.mem_of_getElem? (i := 1) rfl)
  have L2 := hts (.fieldLink RX0 45 "SegmentLog" "endOffset" "I") (List.mem_of_getElem? (i := 2) rfl)
  have L3 := hts (.fieldLink RX0 9 "SegmentLog" "offsets" "[I") (List.mem_of_getElem? (i := 3) rfl)
  have L4 := hts (.fieldLink RX0 13 "SegmentLog" "keys" "[I") (List.mem_of_getElem? (i := 4) rfl)
  have L5 := hts (.fieldLink RX0 16 "SegmentLog" "values" "[I") (List.mem_of_getElem? (i := 5) rfl)
  have L6 := hts (.fieldLink RX0 19 "SegmentLog" "removals" "[Z") (List.mem_of_getElem? (i := 6) rfl)
  have L7 := hts (.fieldLink RX0 23 "SegmentLog" "cleaned" "[Z") (List.mem_of_getElem? (i := 7) rfl)
  subst hsz
  have hD := hD0.self (sz := s.heap.size)
  generalize hAe : va_A (w0 cI cZ ad (n, sc, st, en, du, fo, fk, fv, fr, fc, fb, fp, ft)) s.heap.size = A at hD ⊢
  have hA : ∀ q : Nat, s.heap.size ≤ q → A q := fun q h => by rw [← hAe]; exact Or.inr h
  have hS : va_S A s.heap s.heap [] := va_S.rf
  have hP : va_P (dC, dI) vwCl (w0 cI cZ ad (n, sc, st, en, du, fo, fk, fv, fr, fc, fb, fp, ft)) s.heap := hP
  have hl := lv_entry ([.ref (ad 0), .int x, .int v, .int (ρ)]) (n := 5) (Nat.le_of_ble_eq_true rfl)
  rw [lg_entry_eq]
  generalize (lg_sl ([.ref (ad 0), .int x, .int v, .int (ρ)]) ++ List.replicate (5 - (lg_sl ([.ref (ad 0), .int x, .int v, .int (ρ)])).length) Slot.unset).toArray = ls at hl ⊢
  have hl : lv_has ls 5 [(0, .ref (ad 0)), (1, .int x), (2, .int v), (3, .int (ρ))] := hl
  refine lv_iload_n hx hb dX0_addRecord_0 rfl (lv_at hl 1 rfl) ?_
  refine lv_if_lt (tgt := 10) hx hb dX0_addRecord_1 (by decide) (fun c1 => ?_) (fun c1 => ?_)
  · skip
    refine lv_iconst (v := (-1)) hx hb dX0_addRecord_10 (by decide) ?_
    exact W.iret (v := (-1)) hx hb hr (fun t ht hW => ⟨⟨_, (n, sc, st, en, du, fo, fk, fv, fr, fc, fb, fp, ft), rfl, Or.inr (Or.inr ⟨q_no16 (Or.inl c1), rfl, rfl⟩), by rw [ht]; exact hP, va_K.moved hW.alike hK, hD⟩, hS.F ht⟩) hS.2.2 dX0_addRecord_11
  · skip
    obtain ⟨κ, hκ, rfl⟩ := pk_ge0 c1
    refine lv_iload_n hx hb dX0_addRecord_4 rfl (lv_at hl 1 rfl) ?_
    refine lv_bipush (v := nI 16) hx hb dX0_addRecord_5 (by decide) ?_
    refine lv_icmp_lt (tgt := 12) hx hb dX0_addRecord_7 (by decide) (fun c2 => ?_) (fun c2 => ?_)
    · skip
      have hk : κ < 16 := q_lt hκ (by omega) c2
      refine lv_aload_n hx hb dX0_addRecord_12 rfl (lv_at hl 0 rfl) ?_
      refine va_get (D := (dC, dI)) (ci := 0) (v := .int (nI n)) (C := RX0) (T := TX0) (N := 13) hx hb h00 (fun _ h => h) hown hK hP 0 rfl rfl 5 (by decide) L1 (fun _ h9 => h9) rfl dX0_addRecord_13 ?_
      refine lv_bipush (v := nI 60) hx hb dX0_addRecord_16 (by decide) ?_
      refine lv_icmp_lt (tgt := 24) hx hb dX0_addRecord_18 (by decide) (fun c3 => ?_) (fun c3 => ?_)
      · skip
        have hn6 := q_lt (by omega) (by omega) c3
        refine lv_aload_n hx hb dX0_addRecord_24 rfl (lv_at hl 0 rfl) ?_
        refine va_get (D := (dC, dI)) (ci := 0) (v := .int (nI en)) (C := RX0) (T := TX0) (N := 13) hx hb h00 (fun _ h => h) hown hK hP 0 rfl rfl 11 (by decide) L2 (fun _ h9 => h9) rfl dX0_addRecord_25 ?_
        refine lv_istore (lv' := [(4, .int (nI en)), (0, .ref (ad 0)), (1, .int (nI (κ))), (2, .int v), (3, .int (ρ))]) hx hb dX0_addRecord_28 hl (by decide) rfl (fun ls hl => ?_)
        refine lv_aload_n hx hb dX0_addRecord_30 rfl (lv_at hl 1 rfl) ?_
        refine va_get (D := (dC, dI)) (ci := 0) (v := .ref (ad 1)) (C := RX0) (T := TX0) (N := 13) hx hb h00 (fun _ h => h) hown hK hP 0 rfl rfl 0 (by decide) L3 (fun _ h9 => h9) rfl dX0_addRecord_31 ?_
        refine lv_aload_n hx hb dX0_addRecord_34 rfl (lv_at hl 1 rfl) ?_
        refine va_get (D := (dC, dI)) (ci := 0) (v := .int (nI n)) (C := RX0) (T := TX0) (N := 13) hx hb h00 (fun _ h => h) hown hK hP 0 rfl rfl 5 (by decide) L1 (fun _ h9 => h9) rfl dX0_addRecord_35 ?_
        refine lv_iload hx hb dX0_addRecord_38 (lv_at hl 0 rfl) ?_
        refine qa_iast (i := n) hx hb hK hP hD hS 1 0 rfl rfl (by omega) (by decide) dX0_addRecord_40 (fun H locs hP hD hS => ?_)
        have hP : va_P (dC, dI) vwCl (w0 cI cZ ad (n, sc, st, en, du, (upd fo n (nI en)), fk, fv, fr, fc, fb, fp, ft)) H := hP
        have hD : va_D A (w0 cI cZ ad (n, sc, st, en, du, (upd fo n (nI en)), fk, fv, fr, fc, fb, fp, ft)) := hD
        refine lv_aload_n hx hb dX0_addRecord_41 rfl (lv_at hl 1 rfl) ?_
        refine va_get (D := (dC, dI)) (ci := 0) (v := .ref (ad 2)) (C := RX0) (T := TX0) (N := 13) hx hb h00 (fun _ h => h) hown hK hP 0 rfl rfl 1 (by decide) L4 (fun _ h9 => h9) rfl dX0_addRecord_42 ?_
        refine lv_aload_n hx hb dX0_addRecord_45 rfl (lv_at hl 1 rfl) ?_
        refine va_get (D := (dC, dI)) (ci := 0) (v := .int (nI n)) (C := RX0) (T := TX0) (N := 13) hx hb h00 (fun _ h => h) hown hK hP 0 rfl rfl 5 (by decide) L1 (fun _ h9 => h9) rfl dX0_addRecord_46 ?_
        refine lv_iload_n hx hb dX0_addRecord_49 rfl (lv_at hl 2 rfl) ?_
        refine qa_iast (i := n) hx hb hK hP hD hS 2 0 rfl rfl (by omega) (by decide) dX0_addRecord_50 (fun H locs hP hD hS => ?_)
        have hP : va_P (dC, dI) vwCl (w0 cI cZ ad (n, sc, st, en, du, (upd fo n (nI en)), (upd fk n (nI (κ))), fv, fr, fc, fb, fp, ft)) H := hP
        have hD : va_D A (w0 cI cZ ad (n, sc, st, en, du, (upd fo n (nI en)), (upd fk n (nI (κ))), fv, fr, fc, fb, fp, ft)) := hD
        refine lv_aload_n hx hb dX0_addRecord_51 rfl (lv_at hl 1 rfl) ?_
        refine va_get (D := (dC, dI)) (ci := 0) (v := .ref (ad 3)) (C := RX0) (T := TX0) (N := 13) hx hb h00 (fun _ h => h) hown hK hP 0 rfl rfl 2 (by decide) L5 (fun _ h9 => h9) rfl dX0_addRecord_52 ?_
        refine lv_aload_n hx hb dX0_addRecord_55 rfl (lv_at hl 1 rfl) ?_
        refine va_get (D := (dC, dI)) (ci := 0) (v := .int (nI n)) (C := RX0) (T := TX0) (N := 13) hx hb h00 (fun _ h => h) hown hK hP 0 rfl rfl 5 (by decide) L1 (fun _ h9 => h9) rfl dX0_addRecord_56 ?_
        refine lv_iload_n hx hb dX0_addRecord_59 rfl (lv_at hl 3 rfl) ?_
        refine qa_iast (i := n) hx hb hK hP hD hS 3 0 rfl rfl (by omega) (by decide) dX0_addRecord_60 (fun H locs hP hD hS => ?_)
        have hP : va_P (dC, dI) vwCl (w0 cI cZ ad (n, sc, st, en, du, (upd fo n (nI en)), (upd fk n (nI (κ))), (upd fv n v), fr, fc, fb, fp, ft)) H := hP
        have hD : va_D A (w0 cI cZ ad (n, sc, st, en, du, (upd fo n (nI en)), (upd fk n (nI (κ))), (upd fv n v), fr, fc, fb, fp, ft)) := hD
        refine lv_aload_n hx hb dX0_addRecord_61 rfl (lv_at hl 1 rfl) ?_
        refine va_get (D := (dC, dI)) (ci := 0) (v := .ref (ad 4)) (C := RX0) (T := TX0) (N := 13) hx hb h00 (fun _ h => h) hown hK hP 0 rfl rfl 3 (by decide) L6 (fun _ h9 => h9) rfl dX0_addRecord_62 ?_
        refine lv_aload_n hx hb dX0_addRecord_65 rfl (lv_at hl 1 rfl) ?_
        refine va_get (D := (dC, dI)) (ci := 0) (v := .int (nI n)) (C := RX0) (T := TX0) (N := 13) hx hb h00 (fun _ h => h) hown hK hP 0 rfl rfl 5 (by decide) L1 (fun _ h9 => h9) rfl dX0_addRecord_66 ?_
        refine lv_iload_n hx hb dX0_addRecord_69 rfl (lv_at hl 4 rfl) ?_
        refine qa_zast (i := n) hx hb hK hP hD hS 4 1 rfl rfl (by omega) (by decide) hρ dX0_addRecord_70 (fun H locs hP hD hS => ?_)
        have hP : va_P (dC, dI) vwCl (w0 cI cZ ad (n, sc, st, en, du, (upd fo n (nI en)), (upd fk n (nI (κ))), (upd fv n v), (upd fr n (ρ)), fc, fb, fp, ft)) H := hP
        have hD : va_D A (w0 cI cZ ad (n, sc, st, en, du, (upd fo n (nI en)), (upd fk n (nI (κ))), (upd fv n v), (upd fr n (ρ)), fc, fb, fp, ft)) := hD
        refine lv_aload_n hx hb dX0_addRecord_71 rfl (lv_at hl 1 rfl) ?_
        refine va_get (D := (dC, dI)) (ci := 0) (v := .ref (ad 5)) (C := RX0) (T := TX0) (N := 13) hx hb h00 (fun _ h => h) hown hK hP 0 rfl rfl 4 (by decide) L7 (fun _ h9 => h9) rfl dX0_addRecord_72 ?_
        refine lv_aload_n hx hb dX0_addRecord_75 rfl (lv_at hl 1 rfl) ?_
        refine va_get (D := (dC, dI)) (ci := 0) (v := .int (nI n)) (C := RX0) (T := TX0) (N := 13) hx hb h00 (fun _ h => h) hown hK hP 0 rfl rfl 5 (by decide) L1 (fun _ h9 => h9) rfl dX0_addRecord_76 ?_
        refine lv_iconst (v := nI 0) hx hb dX0_addRecord_79 (by decide) ?_
        refine qa_zast (i := n) hx hb hK hP hD hS 5 1 rfl rfl (by omega) (by decide) (by decide) dX0_addRecord_80 (fun H locs hP hD hS => ?_)
        have hP : va_P (dC, dI) vwCl (w0 cI cZ ad (n, sc, st, en, du, (upd fo n (nI en)), (upd fk n (nI (κ))), (upd fv n v), (upd fr n (ρ)), (upd fc n (nI 0)), fb, fp, ft)) H := hP
        have hD : va_D A (w0 cI cZ ad (n, sc, st, en, du, (upd fo n (nI en)), (upd fk n (nI (κ))), (upd fv n v), (upd fr n (ρ)), (upd fc n (nI 0)), fb, fp, ft)) := hD
        refine lv_aload_n hx hb dX0_addRecord_81 rfl (lv_at hl 1 rfl) ?_
        refine lv_dup hx hb dX0_addRecord_82 rfl ?_
        refine va_get (D := (dC, dI)) (ci := 0) (v := .int (nI n)) (C := RX0) (T := TX0) (N := 13) hx hb h00 (fun _ h => h) hown hK hP 0 rfl rfl 5 (by decide) L1 (fun _ h9 => h9) rfl dX0_addRecord_83 ?_
        refine lv_iconst (v := nI 1) hx hb dX0_addRecord_86 (by decide) ?_
        refine lv_iadd hx hb dX0_addRecord_87 ?_
        refine qa_top (nI_add n 1) ?_
        refine va_put (D := (dC, dI)) (ci := 0) (v := .int (nI (n + 1))) (ty := .int) (C := RX0) (T := TX0) (N := 13) hx hb h00 (fun _ h => h) tyX0 tyX0_ok nmX0 hown hK hP hD hS 0 rfl rfl 5 (by decide) L1 (fun _ h9 => h9) rfl rfl rfl rfl (Nat.le_of_ble_eq_true rfl) dX0_addRecord_88 (fun H locs hP hD hS => ?_)
        have hP : va_P (dC, dI) vwCl (w0 cI cZ ad (n + 1, sc, st, en, du, (upd fo n (nI en)), (upd fk n (nI (κ))), (upd fv n v), (upd fr n (ρ)), (upd fc n (nI 0)), fb, fp, ft)) H := hP
        have hD : va_D A (w0 cI cZ ad (n + 1, sc, st, en, du, (upd fo n (nI en)), (upd fk n (nI (κ))), (upd fv n v), (upd fr n (ρ)), (upd fc n (nI 0)), fb, fp, ft)) := hD
        refine lv_aload_n hx hb dX0_addRecord_91 rfl (lv_at hl 1 rfl) ?_
        refine lv_dup hx hb dX0_addRecord_92 rfl ?_
        refine va_get (D := (dC, dI)) (ci := 0) (v := .int (nI en)) (C := RX0) (T := TX0) (N := 13) hx hb h00 (fun _ h => h) hown hK hP 0 rfl rfl 11 (by decide) L2 (fun _ h9 => h9) rfl dX0_addRecord_93 ?_
        refine lv_iconst (v := nI 1) hx hb dX0_addRecord_96 (by decide) ?_
        refine lv_iadd hx hb dX0_addRecord_97 ?_
        refine qa_top (nI_add en 1) ?_
        refine va_put (D := (dC, dI)) (ci := 0) (v := .int (nI (en + 1))) (ty := .int) (C := RX0) (T := TX0) (N := 13) hx hb h00 (fun _ h => h) tyX0 tyX0_ok nmX0 hown hK hP hD hS 0 rfl rfl 11 (by decide) L2 (fun _ h9 => h9) rfl rfl rfl rfl (Nat.le_of_ble_eq_true rfl) dX0_addRecord_98 (fun H locs hP hD hS => ?_)
        have hP : va_P (dC, dI) vwCl (w0 cI cZ ad (n + 1, sc, st, en + 1, du, (upd fo n (nI en)), (upd fk n (nI (κ))), (upd fv n v), (upd fr n (ρ)), (upd fc n (nI 0)), fb, fp, ft)) H := hP
        have hD : va_D A (w0 cI cZ ad (n + 1, sc, st, en + 1, du, (upd fo n (nI en)), (upd fk n (nI (κ))), (upd fv n v), (upd fr n (ρ)), (upd fc n (nI 0)), fb, fp, ft)) := hD
        refine lv_aload_n hx hb dX0_addRecord_101 rfl (lv_at hl 1 rfl) ?_
        refine va_get (D := (dC, dI)) (ci := 0) (v := .int (nI (en + 1))) (C := RX0) (T := TX0) (N := 13) hx hb h00 (fun _ h => h) hown hK hP 0 rfl rfl 11 (by decide) L2 (fun _ h9 => h9) rfl dX0_addRecord_102 ?_
        refine lv_aload_n hx hb dX0_addRecord_105 rfl (lv_at hl 1 rfl) ?_
        refine vp_callSi (W.runV (As := []) (rest := [.int (nI (en + 1))]) ⟨hx, hb, hml, hown, hts⟩ (c0_activeBase l dC dI cI cZ ad (n + 1) sc st (en + 1) du ((upd fo n (nI en))) ((upd fk n (nI (κ)))) ((upd fv n v)) ((upd fr n (ρ))) ((upd fc n (nI 0))) fb fp ft  hs (by omega)) (cwV 0 hts gX0_addRecord_X0_activeBase rfl rfl rfl (by decide +kernel) ⟨Nat.le_of_ble_eq_true rfl, Nat.le_of_ble_eq_true rfl⟩) ⟨bl_r, va_recv hK hP (ci := 0) (q0 := 0) rfl rfl, fun U hU hW => ⟨rfl, by rw [hU]; exact hP, va_K.moved hW.alike hK⟩⟩ rfl rfl hl.1 rfl (lv_room (Nat.le_of_ble_eq_true rfl)) dX0_addRecord_106 ⟨by decide, by decide⟩) (fun r1 hq => ?_)
        rw [hbl] at hq; subst hq
        refine lv_isub hx hb dX0_addRecord_109 ?_
        refine qa_top (pk_sub (a := en + 1) (b := bl) (by omega)) ?_
        refine lv_iconst (v := nI 5) hx hb dX0_addRecord_110 (by decide) ?_
        refine lv_icmp_ne (tgt := 118) hx hb dX0_addRecord_111 (by decide) (fun c4 => ?_) (fun c4 => ?_)
        · skip
          have h5 : ¬ en + 1 = bl + 5 := fun h => c4 (by rw [h, Nat.add_sub_cancel_left])
          refine lv_iload hx hb dX0_addRecord_118 (lv_at hl 0 rfl) ?_
          exact W.iret (v := nI en) hx hb hr (fun t ht hW => ⟨⟨_, (n + 1, sc, st, en + 1, du, (upd fo n (nI en)), (upd fk n (nI (κ))), (upd fv n v), (upd fr n (ρ)), (upd fc n (nI 0)), fb, fp, ft), rfl, Or.inl ⟨κ, hk, rfl, hn6, rfl, Or.inr ⟨h5, rfl⟩⟩, by rw [ht]; exact hP, va_K.moved hW.alike hK, hD⟩, hS.F ht⟩) hS.2.2 dX0_addRecord_120
        · skip
          have h5 : en + 1 = bl + 5 := by have := nI_inj (by omega) (by omega) c4; omega
          refine lv_aload_n hx hb dX0_addRecord_114 rfl (lv_at hl 1 rfl) ?_
          have hFc := va_free (wc := w0 cI cZ ad (n + 1, sc, st, en + 1, du, (upd fo n (nI en)), (upd fk n (nI (κ))), (upd fv n v), (upd fr n (ρ)), (upd fc n (nI 0)), fb, fp, ft)) hD hS hA [0, 1, 2, 3, 4, 5, 6, 7, 8] rfl
          refine va_callv (va_runV (As := []) (rest := []) ⟨hx, hb, hml, hown, hts⟩ (c0_openSegment l dC dI cI cZ ad H.size (n + 1) sc st (en + 1) du ((upd fo n (nI en))) ((upd fk n (nI (κ)))) ((upd fv n v)) ((upd fr n (ρ))) ((upd fc n (nI 0))) fb fp ft  hs2) (cwV 0 hts gX0_addRecord_X0_openSegment rfl rfl rfl (by decide +kernel) ⟨Nat.le_of_ble_eq_true rfl, Nat.le_of_ble_eq_true rfl⟩) ⟨bl_w, va_recv hK hP (ci := 0) (q0 := 0) rfl rfl, fun U hU hW => ⟨rfl, by rw [hU], by rw [hU]; exact hP, va_K.moved hW.alike hK, hD.weaken (fun _ _ _ _ => trivial)⟩⟩ rfl rfl hl.1 rfl (lv_room (Nat.le_of_ble_eq_true rfl)) dX0_addRecord_115 ⟨by decide, by decide⟩) hS (fun q _ h => hFc q h) hFc (fun u t H1 locs ht hvm hq hB hz1 hk1 hS => ?_)
          obtain ⟨n2, sc2, st2, en2, du2, fo2, fk2, fv2, fr2, fc2, fb2, fp2, ft2⟩ := u
          obtain ⟨hP1, hK1, hD1⟩ := hB
          rw [ht] at hP1
          try dsimp only at hq
          have hD1 := hD1.weaken (B := A) (fun k q _ h => hFc q.1 h)
          generalize H1 = H at hP1 hS ⊢
          have hP : va_P (dC, dI) vwCl (w0 cI cZ ad (n2, sc2, st2, en2, du2, fo2, fk2, fv2, fr2, fc2, fb2, fp2, ft2)) H := hP1
          have hD : va_D A (w0 cI cZ ad (n2, sc2, st2, en2, du2, fo2, fk2, fv2, fr2, fc2, fb2, fp2, ft2)) := hD1
          cases hq
          refine lv_iload hx hb dX0_addRecord_118 (lv_at hl 0 rfl) ?_
          exact W.iret (v := nI en) hx hb hr (fun t ht hW => ⟨⟨_, (n + 1, sc + 1, st, en + 1, du, (upd fo n (nI en)), (upd fk n (nI κ)), (upd fv n v), (upd fr n ρ), (upd fc n (nI 0)), (upd fb sc (nI (en + 1))), fp, ft), rfl, Or.inl ⟨κ, hk, rfl, hn6, rfl, Or.inl ⟨h5, rfl⟩⟩, by rw [ht]; exact hP, va_K.moved hW.alike hK, hD⟩, hS.F ht⟩) hS.2.2 dX0_addRecord_120
      · skip
        have hn6 := q_nlt (by omega) (by omega) c3
        refine lv_bipush (v := (-2)) hx hb dX0_addRecord_21 (by decide) ?_
        exact W.iret (v := (-2)) hx hb hr (fun t ht hW => ⟨⟨_, (n, sc, st, en, du, fo, fk, fv, fr, fc, fb, fp, ft), rfl, Or.inr (Or.inl ⟨κ, hk, rfl, hn6, rfl, rfl⟩), by rw [ht]; exact hP, va_K.moved hW.alike hK, hD⟩, hS.F ht⟩) hS.2.2 dX0_addRecord_23
    · skip
      refine lv_iconst (v := (-1)) hx hb dX0_addRecord_10 (by decide) ?_
      exact W.iret (v := (-1)) hx hb hr (fun t ht hW => ⟨⟨_, (n, sc, st, en, du, fo, fk, fv, fr, fc, fb, fp, ft), rfl, Or.inr (Or.inr ⟨q_no16 (Or.inr (Int32.not_lt.mp c2)), rfl, rfl⟩), by rw [ht]; exact hP, va_K.moved hW.alike hK, hD⟩, hS.F ht⟩) hS.2.2 dX0_addRecord_11
set_option maxHeartbeats 4000000 in
set_option maxRecDepth 100000 in
theorem c0_append (l : Launch) (dC : Nat → ClassId) (dI : Nat → Nat → Nat) (cI cZ : ClassId) (ad : Nat → Nat) (sz : Nat) (n sc st en du : Nat) (fo fk fv fr fc fb fp ft : Nat → Int32) (x v : Int32) (bl : Nat) (hs : 1 ≤ sc) (hs2 : sc ≤ 512) (hn : n ≤ 60) (hen : en ≤ 600) (hbl : fb (sc - 1) = nI bl) (hbe : bl ≤ en) : Met l yX0_append wsX0_append ({ frames := 2, cells := 0, slots := 0, locals := 60 } : Room) (va_Pc [.ref (ad 0), .int x, .int v] (pr_w dC dI cI cZ (w0 cI cZ ad (n, sc, st, en, du, fo, fk, fv, fr, fc, fb, fp, ft)) sz)) (va_Qi (fun (r : Int32) (u : C0) => adp x v (nI 0) bl r (n, sc, st, en, du, fo, fk, fv, fr, fc, fb, fp, ft) u) (at0 dC dI cI cZ ad (va_A (w0 cI cZ ad (n, sc, st, en, du, fo, fk, fv, fr, fc, fb, fp, ft)) sz)) (va_A (w0 cI cZ ad (n, sc, st, en, du, fo, fk, fv, fr, fc, fb, fp, ft)) sz)) 0 0 (va_A (w0 cI cZ ad (n, sc, st, en, du, fo, fk, fv, fr, fc, fb, fp, ft)) sz) := by
  refine Met.ofW (cc := cX0_append) (maxL := 3) (ret := (some .int)) (by decide) rfl ?_
  intro p e s m args below meth c s₁ B hml hv
  obtain ⟨rfl, hsz, hP, hK, hD0⟩ := hv
  have hx := B.exec
  have hb := B.bytes
  have hr := B.returns
  have hts := atoms_spec (ws := wsX0_append) B.pre
  have hown : s.vm.findClass RX0 = some m.cls := findClass_of_methodNamed B.named
  have hlocks := B.notSynchronized
  have h00 : ∀ w ∈ wsX00, w.before _ s = true := fun w h => hts w (List.mem_cons_of_mem _ (List.mem_append_right _ h))
  subst hsz
  have hD := hD0.self (sz := s.heap.size)
  generalize hAe : va_A (w0 cI cZ ad (n, sc, st, en, du, fo, fk, fv, fr, fc, fb, fp, ft)) s.heap.size = A at hD ⊢
  have hA : ∀ q : Nat, s.heap.size ≤ q → A q := fun q h => by rw [← hAe]; exact Or.inr h
  have hS : va_S A s.heap s.heap [] := va_S.rf
  have hP : va_P (dC, dI) vwCl (w0 cI cZ ad (n, sc, st, en, du, fo, fk, fv, fr, fc, fb, fp, ft)) s.heap := hP
  have hl := lv_entry ([.ref (ad 0), .int x, .int v]) (n := 3) (Nat.le_of_ble_eq_true rfl)
  rw [lg_entry_eq]
  generalize (lg_sl ([.ref (ad 0), .int x, .int v]) ++ List.replicate (3 - (lg_sl ([.ref (ad 0), .int x, .int v])).length) Slot.unset).toArray = ls at hl ⊢
  have hl : lv_has ls 3 [(0, .ref (ad 0)), (1, .int x), (2, .int v)] := hl
  refine lv_aload_n hx hb dX0_append_0 rfl (lv_at hl 0 rfl) ?_
  refine lv_iload_n hx hb dX0_append_1 rfl (lv_at hl 1 rfl) ?_
  refine lv_iload_n hx hb dX0_append_2 rfl (lv_at hl 2 rfl) ?_
  refine lv_iconst (v := nI 0) hx hb dX0_append_3 (by decide) ?_
  have hFc := va_free (wc := w0 cI cZ ad (n, sc, st, en, du, fo, fk, fv, fr, fc, fb, fp, ft)) hD hS hA [0, 1, 2, 3, 4, 5, 6, 7, 8] rfl
  refine va_calli (va_runV (As := [.int x, .int v, .int (nI 0)]) (rest := []) ⟨hx, hb, hml, hown, hts⟩ (c0_addRecord l dC dI cI cZ ad s.heap.size n sc st en du fo fk fv fr fc fb fp ft x v (nI 0) bl hs hs2 hn hen nb_0 hbl hbe) (cwV 3 hts gX0_append_X0_addRecord rfl rfl rfl (by decide +kernel) ⟨Nat.le_of_ble_eq_true rfl, Nat.le_of_ble_eq_true rfl⟩) ⟨bl_w, va_recv hK hP (ci := 0) (q0 := 0) rfl rfl, fun U hU hW => ⟨rfl, by rw [hU], by rw [hU]; exact hP, va_K.moved hW.alike hK, hD.weaken (fun _ _ _ _ => trivial)⟩⟩ rfl rfl hl.1 rfl (lv_room (Nat.le_of_ble_eq_true rfl)) dX0_append_4 ⟨by decide, by decide⟩) hS (fun q _ h => hFc q h) hFc (fun r1 u t H1 locs ht hvm hq hB hz1 hk1 hS => ?_)
  obtain ⟨n2, sc2, st2, en2, du2, fo2, fk2, fv2, fr2, fc2, fb2, fp2, ft2⟩ := u
  obtain ⟨hP1, hK1, hD1⟩ := hB
  rw [ht] at hP1
  try dsimp only at hq
  have hD1 := hD1.weaken (B := A) (fun k q _ h => hFc q.1 h)
  generalize H1 = H at hP1 hS ⊢
  have hP : va_P (dC, dI) vwCl (w0 cI cZ ad (n2, sc2, st2, en2, du2, fo2, fk2, fv2, fr2, fc2, fb2, fp2, ft2)) H := hP1
  have hD : va_D A (w0 cI cZ ad (n2, sc2, st2, en2, du2, fo2, fk2, fv2, fr2, fc2, fb2, fp2, ft2)) := hD1
  exact W.iret (v := r1) hx hb hr (fun t ht hW => ⟨⟨_, (n2, sc2, st2, en2, du2, fo2, fk2, fv2, fr2, fc2, fb2, fp2, ft2), rfl, hq, by rw [ht]; exact hP, va_K.moved hW.alike hK, hD⟩, hS.F ht⟩) hS.2.2 dX0_append_7
set_option maxHeartbeats 4000000 in
set_option maxRecDepth 100000 in
theorem c0_remove (l : Launch) (dC : Nat → ClassId) (dI : Nat → Nat → Nat) (cI cZ : ClassId) (ad : Nat → Nat) (sz : Nat) (n sc st en du : Nat) (fo fk fv fr fc fb fp ft : Nat → Int32) (x : Int32) (bl : Nat) (hs : 1 ≤ sc) (hs2 : sc ≤ 512) (hn : n ≤ 60) (hen : en ≤ 600) (hbl : fb (sc - 1) = nI bl) (hbe : bl ≤ en) : Met l yX0_remove wsX0_remove ({ frames := 2, cells := 0, slots := 0, locals := 60 } : Room) (va_Pc [.ref (ad 0), .int x] (pr_w dC dI cI cZ (w0 cI cZ ad (n, sc, st, en, du, fo, fk, fv, fr, fc, fb, fp, ft)) sz)) (va_Qi (fun (r : Int32) (u : C0) => adp x (nI 0) (nI 1) bl r (n, sc, st, en, du, fo, fk, fv, fr, fc, fb, fp, ft) u) (at0 dC dI cI cZ ad (va_A (w0 cI cZ ad (n, sc, st, en, du, fo, fk, fv, fr, fc, fb, fp, ft)) sz)) (va_A (w0 cI cZ ad (n, sc, st, en, du, fo, fk, fv, fr, fc, fb, fp, ft)) sz)) 0 0 (va_A (w0 cI cZ ad (n, sc, st, en, du, fo, fk, fv, fr, fc, fb, fp, ft)) sz) := by
  refine Met.ofW (cc := cX0_remove) (maxL := 2) (ret := (some .int)) (by decide) rfl ?_
  intro p e s m args below meth c s₁ B hml hv
  obtain ⟨rfl, hsz, hP, hK, hD0⟩ := hv
  have hx := B.exec
  have hb := B.bytes
  have hr := B.returns
  have hts := atoms_spec (ws := wsX0_remove) B.pre
  have hown : s.vm.findClass RX0 = some m.cls := findClass_of_methodNamed B.named
  have hlocks := B.notSynchronized
  have h00 : ∀ w ∈ wsX00, w.before _ s = true := fun w h => hts w (List.mem_cons_of_mem _ (List.mem_append_right _ h))
  subst hsz
  have hD := hD0.self (sz := s.heap.size)
  generalize hAe : va_A (w0 cI cZ ad (n, sc, st, en, du, fo, fk, fv, fr, fc, fb, fp, ft)) s.heap.size = A at hD ⊢
  have hA : ∀ q : Nat, s.heap.size ≤ q → A q := fun q h => by rw [← hAe]; exact Or.inr h
  have hS : va_S A s.heap s.heap [] := va_S.rf
  have hP : va_P (dC, dI) vwCl (w0 cI cZ ad (n, sc, st, en, du, fo, fk, fv, fr, fc, fb, fp, ft)) s.heap := hP
  have hl := lv_entry ([.ref (ad 0), .int x]) (n := 2) (Nat.le_of_ble_eq_true rfl)
  rw [lg_entry_eq]
  generalize (lg_sl ([.ref (ad 0), .int x]) ++ List.replicate (2 - (lg_sl ([.ref (ad 0), .int x])).length) Slot.unset).toArray = ls at hl ⊢
  have hl : lv_has ls 2 [(0, .ref (ad 0)), (1, .int x)] := hl
  refine lv_aload_n hx hb dX0_remove_0 rfl (lv_at hl 0 rfl) ?_
  refine lv_iload_n hx hb dX0_remove_1 rfl (lv_at hl 1 rfl) ?_
  refine lv_iconst (v := nI 0) hx hb dX0_remove_2 (by decide) ?_
  refine lv_iconst (v := nI 1) hx hb dX0_remove_3 (by decide) ?_
  have hFc := va_free (wc := w0 cI cZ ad (n, sc, st, en, du, fo, fk, fv, fr, fc, fb, fp, ft)) hD hS hA [0, 1, 2, 3, 4, 5, 6, 7, 8] rfl
  refine va_calli (va_runV (As := [.int x, .int (nI 0), .int (nI 1)]) (rest := []) ⟨hx, hb, hml, hown, hts⟩ (c0_addRecord l dC dI cI cZ ad s.heap.size n sc st en du fo fk fv fr fc fb fp ft x (nI 0) (nI 1) bl hs hs2 hn hen nb_1 hbl hbe) (cwV 3 hts gX0_remove_X0_addRecord rfl rfl rfl (by decide +kernel) ⟨Nat.le_of_ble_eq_true rfl, Nat.le_of_ble_eq_true rfl⟩) ⟨bl_w, va_recv hK hP (ci := 0) (q0 := 0) rfl rfl, fun U hU hW => ⟨rfl, by rw [hU], by rw [hU]; exact hP, va_K.moved hW.alike hK, hD.weaken (fun _ _ _ _ => trivial)⟩⟩ rfl rfl hl.1 rfl (lv_room (Nat.le_of_ble_eq_true rfl)) dX0_remove_4 ⟨by decide, by decide⟩) hS (fun q _ h => hFc q h) hFc (fun r1 u t H1 locs ht hvm hq hB hz1 hk1 hS => ?_)
  obtain ⟨n2, sc2, st2, en2, du2, fo2, fk2, fv2, fr2, fc2, fb2, fp2, ft2⟩ := u
  obtain ⟨hP1, hK1, hD1⟩ := hB
  rw [ht] at hP1
  try dsimp only at hq
  have hD1 := hD1.weaken (B := A) (fun k q _ h => hFc q.1 h)
  generalize H1 = H at hP1 hS ⊢
  have hP : va_P (dC, dI) vwCl (w0 cI cZ ad (n2, sc2, st2, en2, du2, fo2, fk2, fv2, fr2, fc2, fb2, fp2, ft2)) H := hP1
  have hD : va_D A (w0 cI cZ ad (n2, sc2, st2, en2, du2, fo2, fk2, fv2, fr2, fc2, fb2, fp2, ft2)) := hD1
  exact W.iret (v := r1) hx hb hr (fun t ht hW => ⟨⟨_, (n2, sc2, st2, en2, du2, fo2, fk2, fv2, fr2, fc2, fb2, fp2, ft2), rfl, hq, by rw [ht]; exact hP, va_K.moved hW.alike hK, hD⟩, hS.F ht⟩) hS.2.2 dX0_remove_7
set_option maxHeartbeats 4000000 in
set_option maxRecDepth 100000 in
theorem c0_flush (l : Launch) (dC : Nat → ClassId) (dI : Nat → Nat → Nat) (cI cZ : ClassId) (ad : Nat → Nat) (sz : Nat) (n sc st en du : Nat) (fo fk fv fr fc fb fp ft : Nat → Int32) (hd : du ≤ en) : Met l yX0_flush wsX0_flush ({ frames := 0, cells := 0, slots := 0, locals := 0 } : Room) (va_Pc [.ref (ad 0)] (pr_w dC dI cI cZ (w0 cI cZ ad (n, sc, st, en, du, fo, fk, fv, fr, fc, fb, fp, ft)) sz)) (va_Qi (fun (r : Int32) (u : C0) => r = nI (en - du) ∧ u = (n, sc, st, en, en, fo, fk, fv, fr, fc, fb, fp, ft)) (at0 dC dI cI cZ ad (va_A (w0 cI cZ ad (n, sc, st, en, du, fo, fk, fv, fr, fc, fb, fp, ft)) sz)) (va_A (w0 cI cZ ad (n, sc, st, en, du, fo, fk, fv, fr, fc, fb, fp, ft)) sz)) 0 0 (va_A (w0 cI cZ ad (n, sc, st, en, du, fo, fk, fv, fr, fc, fb, fp, ft)) sz) := by
  refine Met.ofW (cc := cX0_flush) (maxL := 2) (ret := (some .int)) (by decide) rfl ?_
  intro p e s m args below meth c s₁ B hml hv
  obtain ⟨rfl, hsz, hP, hK, hD0⟩ := hv
  have hx := B.exec
  have hb := B.bytes
  have hr := B.returns
  have hts := atoms_spec (ws := wsX0_flush) B.pre
  have hown : s.vm.findClass RX0 = some m.cls := findClass_of_methodNamed B.named
  have hlocks := B.notSynchronized
  have h00 : ∀ w ∈ wsX00, w.before _ s = true := fun w h => hts w (List.mem_cons_of_mem _ (List.mem_append_right _ h))
  have L1 := hts (.fieldLink RX0 45 "SegmentLog" "endOffset" "I") (List.mem_of_getElem? (i := 1) rfl)
  have L2 := hts (.fieldLink RX0 48 "SegmentLog" "durableOffset" "I") (List.mem_of_getElem? (i := 2) rfl)
  subst hsz
  have hD := hD0.self (sz := s.heap.size)
  generalize hAe : va_A (w0 cI cZ ad (n, sc, st, en, du, fo, fk, fv, fr, fc, fb, fp, ft)) s.heap.size = A at hD ⊢
  have hA : ∀ q : Nat, s.heap.size ≤ q → A q := fun q h => by rw [← hAe]; exact Or.inr h
  have hS : va_S A s.heap s.heap [] := va_S.rf
  have hP : va_P (dC, dI) vwCl (w0 cI cZ ad (n, sc, st, en, du, fo, fk, fv, fr, fc, fb, fp, ft)) s.heap := hP
  have hl := lv_entry ([.ref (ad 0)]) (n := 2) (Nat.le_of_ble_eq_true rfl)
  rw [lg_entry_eq]
  generalize (lg_sl ([.ref (ad 0)]) ++ List.replicate (2 - (lg_sl ([.ref (ad 0)])).length) Slot.unset).toArray = ls at hl ⊢
  have hl : lv_has ls 2 [(0, .ref (ad 0))] := hl
  refine lv_aload_n hx hb dX0_flush_0 rfl (lv_at hl 0 rfl) ?_
  refine va_get (D := (dC, dI)) (ci := 0) (v := .int (nI en)) (C := RX0) (T := TX0) (N := 13) hx hb h00 (fun _ h => h) hown hK hP 0 rfl rfl 11 (by decide) L1 (fun _ h9 => h9) rfl dX0_flush_1 ?_
  refine lv_aload_n hx hb dX0_flush_4 rfl (lv_at hl 0 rfl) ?_
  refine va_get (D := (dC, dI)) (ci := 0) (v := .int (nI du)) (C := RX0) (T := TX0) (N := 13) hx hb h00 (fun _ h => h) hown hK hP 0 rfl rfl 12 (by decide) L2 (fun _ h9 => h9) rfl dX0_flush_5 ?_
  refine lv_isub hx hb dX0_flush_8 ?_
  refine qa_top (pk_sub (a := en) (b := du) (by omega)) ?_
  refine lv_istore_n (lv' := [(1, .int (nI (en - du))), (0, .ref (ad 0))]) hx hb dX0_flush_9 rfl hl (by decide) rfl (fun ls hl => ?_)
  refine lv_aload_n hx hb dX0_flush_10 rfl (lv_at hl 1 rfl) ?_
  refine lv_aload_n hx hb dX0_flush_11 rfl (lv_at hl 1 rfl) ?_
  refine va_get (D := (dC, dI)) (ci := 0) (v := .int (nI en)) (C := RX0) (T := TX0) (N := 13) hx hb h00 (fun _ h => h) hown hK hP 0 rfl rfl 11 (by decide) L1 (fun _ h9 => h9) rfl dX0_flush_12 ?_
  refine va_put (D := (dC, dI)) (ci := 0) (v := .int (nI en)) (ty := .int) (C := RX0) (T := TX0) (N := 13) hx hb h00 (fun _ h => h) tyX0 tyX0_ok nmX0 hown hK hP hD hS 0 rfl rfl 12 (by decide) L2 (fun _ h9 => h9) rfl rfl rfl rfl (Nat.le_of_ble_eq_true rfl) dX0_flush_15 (fun H locs hP hD hS => ?_)
  have hP : va_P (dC, dI) vwCl (w0 cI cZ ad (n, sc, st, en, en, fo, fk, fv, fr, fc, fb, fp, ft)) H := hP
  have hD : va_D A (w0 cI cZ ad (n, sc, st, en, en, fo, fk, fv, fr, fc, fb, fp, ft)) := hD
  refine lv_iload_n hx hb dX0_flush_18 rfl (lv_at hl 0 rfl) ?_
  exact W.iret (v := nI (en - du)) hx hb hr (fun t ht hW => ⟨⟨_, (n, sc, st, en, en, fo, fk, fv, fr, fc, fb, fp, ft), rfl, ⟨rfl, rfl⟩, by rw [ht]; exact hP, va_K.moved hW.alike hK, hD⟩, hS.F ht⟩) hS.2.2 dX0_flush_19
set_option maxHeartbeats 4000000 in
set_option maxRecDepth 100000 in
theorem c0_roll (l : Launch) (dC : Nat → ClassId) (dI : Nat → Nat → Nat) (cI cZ : ClassId) (ad : Nat → Nat) (sz : Nat) (n sc st en du : Nat) (fo fk fv fr fc fb fp ft : Nat → Int32) (hs : 1 ≤ sc) (hs2 : sc ≤ 512) : Met l yX0_roll wsX0_roll ({ frames := 1, cells := 0, slots := 0, locals := 30 } : Room) (va_Pc [.ref (ad 0)] (pr_w dC dI cI cZ (w0 cI cZ ad (n, sc, st, en, du, fo, fk, fv, fr, fc, fb, fp, ft)) sz)) (va_Qi (fun (r : Int32) (u : C0) => (fb (sc - 1) = nI en ∧ r = nI 0 ∧ u = (n, sc, st, en, du, fo, fk, fv, fr, fc, fb, fp, ft)) ∨ (¬ fb (sc - 1) = nI en ∧ r = nI 1 ∧ u = (n, sc + 1, st, en, du, fo, fk, fv, fr, fc, upd fb sc (nI en), fp, ft))) (at0 dC dI cI cZ ad (va_A (w0 cI cZ ad (n, sc, st, en, du, fo, fk, fv, fr, fc, fb, fp, ft)) sz)) (va_A (w0 cI cZ ad (n, sc, st, en, du, fo, fk, fv, fr, fc, fb, fp, ft)) sz)) 0 0 (va_A (w0 cI cZ ad (n, sc, st, en, du, fo, fk, fv, fr, fc, fb, fp, ft)) sz) := by
  refine Met.ofW (cc := cX0_roll) (maxL := 1) (ret := (some .boolean)) (by decide) rfl ?_
  intro p e s m args below meth c s₁ B hml hv
  obtain ⟨rfl, hsz, hP, hK, hD0⟩ := hv
  have hx := B.exec
  have hb := B.bytes
  have hr := B.returns
  have hts := atoms_spec (ws := wsX0_roll) B.pre
  have hown : s.vm.findClass RX0 = some m.cls := findClass_of_methodNamed B.named
  have hlocks := B.notSynchronized
  have h00 : ∀ w ∈ wsX00, w.before _ s = true := fun w h => hts w (List.mem_cons_of_mem _ (List.mem_append_right _ h))
  have L1 := hts (.fieldLink RX0 45 "SegmentLog" "endOffset" "I") (List.mem_of_getElem? (i := 1) rfl)
  subst hsz
  have hD := hD0.self (sz := s.heap.size)
  generalize hAe : va_A (w0 cI cZ ad (n, sc, st, en, du, fo, fk, fv, fr, fc, fb, fp, ft)) s.heap.size = A at hD ⊢
  have hA : ∀ q : Nat, s.heap.size ≤ q → A q := fun q h => by rw [← hAe]; exact Or.inr h
  have hS : va_S A s.heap s.heap [] := va_S.rf
  have hP : va_P (dC, dI) vwCl (w0 cI cZ ad (n, sc, st, en, du, fo, fk, fv, fr, fc, fb, fp, ft)) s.heap := hP
  have hl := lv_entry ([.ref (ad 0)]) (n := 1) (Nat.le_of_ble_eq_true rfl)
  rw [lg_entry_eq]
  generalize (lg_sl ([.ref (ad 0)]) ++ List.replicate (1 - (lg_sl ([.ref (ad 0)])).length) Slot.unset).toArray = ls at hl ⊢
  have hl : lv_has ls 1 [(0, .ref (ad 0))] := hl
  refine lv_aload_n hx hb dX0_roll_0 rfl (lv_at hl 0 rfl) ?_
  refine vp_callSi (W.runV (As := []) (rest := []) ⟨hx, hb, hml, hown, hts⟩ (c0_activeBase l dC dI cI cZ ad n sc st en du fo fk fv fr fc fb fp ft  hs (by omega)) (cwV 0 hts gX0_roll_X0_activeBase rfl rfl rfl (by decide +kernel) ⟨Nat.le_of_ble_eq_true rfl, Nat.le_of_ble_eq_true rfl⟩) ⟨bl_r, va_recv hK hP (ci := 0) (q0 := 0) rfl rfl, fun U hU hW => ⟨rfl, by rw [hU]; exact hP, va_K.moved hW.alike hK⟩⟩ rfl rfl hl.1 rfl (lv_room (Nat.le_of_ble_eq_true rfl)) dX0_roll_1 ⟨by decide, by decide⟩) (fun r1 hq => ?_)
  subst hq
  refine lv_aload_n hx hb dX0_roll_4 rfl (lv_at hl 0 rfl) ?_
  refine va_get (D := (dC, dI)) (ci := 0) (v := .int (nI en)) (C := RX0) (T := TX0) (N := 13) hx hb h00 (fun _ h => h) hown hK hP 0 rfl rfl 11 (by decide) L1 (fun _ h9 => h9) rfl dX0_roll_5 ?_
  refine lv_icmp_ne (tgt := 13) hx hb dX0_roll_8 (by decide) (fun c1 => ?_) (fun c1 => ?_)
  · skip
    refine lv_aload_n hx hb dX0_roll_13 rfl (lv_at hl 0 rfl) ?_
    have hFc := va_free (wc := w0 cI cZ ad (n, sc, st, en, du, fo, fk, fv, fr, fc, fb, fp, ft)) hD hS hA [0, 1, 2, 3, 4, 5, 6, 7, 8] rfl
    refine va_callv (va_runV (As := []) (rest := []) ⟨hx, hb, hml, hown, hts⟩ (c0_openSegment l dC dI cI cZ ad s.heap.size n sc st en du fo fk fv fr fc fb fp ft  hs2) (cwV 0 hts gX0_roll_X0_openSegment rfl rfl rfl (by decide +kernel) ⟨Nat.le_of_ble_eq_true rfl, Nat.le_of_ble_eq_true rfl⟩) ⟨bl_w, va_recv hK hP (ci := 0) (q0 := 0) rfl rfl, fun U hU hW => ⟨rfl, by rw [hU], by rw [hU]; exact hP, va_K.moved hW.alike hK, hD.weaken (fun _ _ _ _ => trivial)⟩⟩ rfl rfl hl.1 rfl (lv_room (Nat.le_of_ble_eq_true rfl)) dX0_roll_14 ⟨by decide, by decide⟩) hS (fun q _ h => hFc q h) hFc (fun u t H1 locs ht hvm hq hB hz1 hk1 hS => ?_)
    obtain ⟨n2, sc2, st2, en2, du2, fo2, fk2, fv2, fr2, fc2, fb2, fp2, ft2⟩ := u
    obtain ⟨hP1, hK1, hD1⟩ := hB
    rw [ht] at hP1
    try dsimp only at hq
    have hD1 := hD1.weaken (B := A) (fun k q _ h => hFc q.1 h)
    generalize H1 = H at hP1 hS ⊢
    have hP : va_P (dC, dI) vwCl (w0 cI cZ ad (n2, sc2, st2, en2, du2, fo2, fk2, fv2, fr2, fc2, fb2, fp2, ft2)) H := hP1
    have hD : va_D A (w0 cI cZ ad (n2, sc2, st2, en2, du2, fo2, fk2, fv2, fr2, fc2, fb2, fp2, ft2)) := hD1
    cases hq
    refine lv_iconst (v := nI 1) hx hb dX0_roll_17 (by decide) ?_
    exact W.zret (v := nI 1) hx hb hr (by decide) (fun t ht hW => ⟨⟨_, (n, sc + 1, st, en, du, fo, fk, fv, fr, fc, (upd fb sc (nI en)), fp, ft), rfl, Or.inr ⟨c1, rfl, rfl⟩, by rw [ht]; exact hP, va_K.moved hW.alike hK, hD⟩, hS.F ht⟩) hS.2.2 dX0_roll_18
  · skip
    refine lv_iconst (v := nI 0) hx hb dX0_roll_11 (by decide) ?_
    exact W.zret (v := nI 0) hx hb hr (by decide) (fun t ht hW => ⟨⟨_, (n, sc, st, en, du, fo, fk, fv, fr, fc, fb, fp, ft), rfl, Or.inl ⟨c1, rfl, rfl⟩, by rw [ht]; exact hP, va_K.moved hW.alike hK, hD⟩, hS.F ht⟩) hS.2.2 dX0_roll_12
set_option maxHeartbeats 4000000 in
set_option maxRecDepth 100000 in
theorem c0_poll (l : Launch) (dC : Nat → ClassId) (dI : Nat → Nat → Nat) (cI cZ : ClassId) (ad : Nat → Nat) (sz : Nat) (n sc st en du : Nat) (fo fk fv fr fc fb fp ft : Nat → Int32) (x : Int32) (hn : n ≤ 60) : Met l yX0_poll wsX0_poll ({ frames := 1, cells := 0, slots := 0, locals := 30 } : Room) (va_Pc [.ref (ad 0), .int x] (pr_w dC dI cI cZ (w0 cI cZ ad (n, sc, st, en, du, fo, fk, fv, fr, fc, fb, fp, ft)) sz)) (va_Qi (fun (r : Int32) (u : C0) => (∃ g j, gp x g ∧ ix fo n (fp g) j ∧ ((j = n ∧ r = -1 ∧ u = (n, sc, st, en, du, fo, fk, fv, fr, fc, fb, fp, ft)) ∨ (j < n ∧ r = fo j ∧ u = (n, sc, st, en, du, fo, fk, fv, fr, fc, fb, upd fp g (fo j + nI 1), ft)))) ∨ ((∀ g, ¬ gp x g) ∧ r = -1 ∧ u = (n, sc, st, en, du, fo, fk, fv, fr, fc, fb, fp, ft))) (at0 dC dI cI cZ ad (va_A (w0 cI cZ ad (n, sc, st, en, du, fo, fk, fv, fr, fc, fb, fp, ft)) sz)) (va_A (w0 cI cZ ad (n, sc, st, en, du, fo, fk, fv, fr, fc, fb, fp, ft)) sz)) 0 0 (va_A (w0 cI cZ ad (n, sc, st, en, du, fo, fk, fv, fr, fc, fb, fp, ft)) sz) := by
  refine Met.ofW (cc := cX0_poll) (maxL := 3) (ret := (some .int)) (by decide) rfl ?_
  intro p e s m args below meth c s₁ B hml hv
  obtain ⟨rfl, hsz, hP, hK, hD0⟩ := hv
  have hx := B.exec
  have hb := B.bytes
  have hr := B.returns
  have hts := atoms_spec (ws := wsX0_poll) B.pre
  have hown : s.vm.findClass RX0 = some m.cls := findClass_of_methodNamed B.named
  have hlocks := B.notSynchronized
  have h00 : ∀ w ∈ wsX00, w.before _ s = true := fun w h => hts w (List.mem_cons_of_mem _ (List.mem_append_right _ h))
  have L1 := hts (.fieldLink RX0 36 "SegmentLog" "positions" "[I") (List.mem_of_getElem? (i := 1) rfl)
  have L2 := hts (.fieldLink RX0 26 "SegmentLog" "recordCount" "I") (List.mem_of_getElem? (i := 2) rfl)
  have L3 := hts (.fieldLink RX0 9 "SegmentLog" "offsets" "[I") (List.mem_of_getElem? (i := 3) rfl)
  subst hsz
  have hD := hD0.self (sz := s.heap.size)
  generalize hAe : va_A (w0 cI cZ ad (n, sc, st, en, du, fo, fk, fv, fr, fc, fb, fp, ft)) s.heap.size = A at hD ⊢
  have hA : ∀ q : Nat, s.heap.size ≤ q → A q := fun q h => by rw [← hAe]; exact Or.inr h
  have hS : va_S A s.heap s.heap [] := va_S.rf
  have hP : va_P (dC, dI) vwCl (w0 cI cZ ad (n, sc, st, en, du, fo, fk, fv, fr, fc, fb, fp, ft)) s.heap := hP
  have hl := lv_entry ([.ref (ad 0), .int x]) (n := 3) (Nat.le_of_ble_eq_true rfl)
  rw [lg_entry_eq]
  generalize (lg_sl ([.ref (ad 0), .int x]) ++ List.replicate (3 - (lg_sl ([.ref (ad 0), .int x])).length) Slot.unset).toArray = ls at hl ⊢
  have hl : lv_has ls 3 [(0, .ref (ad 0)), (1, .int x)] := hl
  refine lv_aload_n hx hb dX0_poll_0 rfl (lv_at hl 0 rfl) ?_
  refine lv_iload_n hx hb dX0_poll_1 rfl (lv_at hl 1 rfl) ?_
  refine vp_callSi (W.runV (As := [.int x]) (rest := []) ⟨hx, hb, hml, hown, hts⟩ (c0_isGroup l dC dI cI cZ ad n sc st en du fo fk fv fr fc fb fp ft x ) (cwV 1 hts gX0_poll_X0_isGroup rfl rfl rfl (by decide +kernel) ⟨Nat.le_of_ble_eq_true rfl, Nat.le_of_ble_eq_true rfl⟩) ⟨bl_r, va_recv hK hP (ci := 0) (q0 := 0) rfl rfl, fun U hU hW => ⟨rfl, by rw [hU]; exact hP, va_K.moved hW.alike hK⟩⟩ rfl rfl hl.1 rfl (lv_room (Nat.le_of_ble_eq_true rfl)) dX0_poll_2 ⟨by decide, by decide⟩) (fun r1 hq => ?_)
  rcases hq with ⟨g, hg, rfl⟩ | ⟨hg, rfl⟩
  · skip
    refine lv_if_ne (tgt := 10) hx hb dX0_poll_5 (by decide) (fun c1 => ?_) (fun c1 => ?_)
    · skip
      obtain ⟨hg4, rfl⟩ := hg
      refine lv_aload_n hx hb dX0_poll_10 rfl (lv_at hl 0 rfl) ?_
      refine lv_aload_n hx hb dX0_poll_11 rfl (lv_at hl 0 rfl) ?_
      refine va_get (D := (dC, dI)) (ci := 0) (v := .ref (ad 7)) (C := RX0) (T := TX0) (N := 13) hx hb h00 (fun _ h => h) hown hK hP 0 rfl rfl 8 (by decide) L1 (fun _ h9 => h9) rfl dX0_poll_12 ?_
      refine lv_iload_n hx hb dX0_poll_15 rfl (lv_at hl 1 rfl) ?_
      refine qa_iald (i := g) hx hb hK hP 7 0 rfl rfl (by omega) (by decide) dX0_poll_16 ?_
      refine vp_callSi (W.runV (As := [.int (fp g)]) (rest := []) ⟨hx, hb, hml, hown, hts⟩ (c0_indexFrom l dC dI cI cZ ad n sc st en du fo fk fv fr fc fb fp ft (fp g) hn) (cwV 1 hts gX0_poll_X0_indexFrom rfl rfl rfl (by decide +kernel) ⟨Nat.le_of_ble_eq_true rfl, Nat.le_of_ble_eq_true rfl⟩) ⟨bl_r, va_recv hK hP (ci := 0) (q0 := 0) rfl rfl, fun U hU hW => ⟨rfl, by rw [hU]; exact hP, va_K.moved hW.alike hK⟩⟩ rfl rfl hl.1 rfl (lv_room (Nat.le_of_ble_eq_true rfl)) dX0_poll_17 ⟨by decide, by decide⟩) (fun r2 hq2 => ?_)
      obtain ⟨j, hj, rfl⟩ := hq2
      have hjn := hj.1
      refine lv_istore_n (lv' := [(2, .int (nI j)), (0, .ref (ad 0)), (1, .int (nI g))]) hx hb dX0_poll_20 rfl hl (by decide) rfl (fun ls hl => ?_)
      refine lv_iload_n hx hb dX0_poll_21 rfl (lv_at hl 0 rfl) ?_
      refine lv_aload_n hx hb dX0_poll_22 rfl (lv_at hl 1 rfl) ?_
      refine va_get (D := (dC, dI)) (ci := 0) (v := .int (nI n)) (C := RX0) (T := TX0) (N := 13) hx hb h00 (fun _ h => h) hown hK hP 0 rfl rfl 5 (by decide) L2 (fun _ h9 => h9) rfl dX0_poll_23 ?_
      refine lv_icmp_lt (tgt := 31) hx hb dX0_poll_26 (by decide) (fun c2 => ?_) (fun c2 => ?_)
      · skip
        have hc := q_lt (by omega) (by omega) c2
        refine lv_aload_n hx hb dX0_poll_31 rfl (lv_at hl 1 rfl) ?_
        refine va_get (D := (dC, dI)) (ci := 0) (v := .ref (ad 7)) (C := RX0) (T := TX0) (N := 13) hx hb h00 (fun _ h => h) hown hK hP 0 rfl rfl 8 (by decide) L1 (fun _ h9 => h9) rfl dX0_poll_32 ?_
        refine lv_iload_n hx hb dX0_poll_35 rfl (lv_at hl 2 rfl) ?_
        refine lv_aload_n hx hb dX0_poll_36 rfl (lv_at hl 1 rfl) ?_
        refine va_get (D := (dC, dI)) (ci := 0) (v := .ref (ad 1)) (C := RX0) (T := TX0) (N := 13) hx hb h00 (fun _ h => h) hown hK hP 0 rfl rfl 0 (by decide) L3 (fun _ h9 => h9) rfl dX0_poll_37 ?_
        refine lv_iload_n hx hb dX0_poll_40 rfl (lv_at hl 0 rfl) ?_
        refine qa_iald (i := j) hx hb hK hP 1 0 rfl rfl (by omega) (by decide) dX0_poll_41 ?_
        refine lv_iconst (v := nI 1) hx hb dX0_poll_42 (by decide) ?_
        refine lv_iadd hx hb dX0_poll_43 ?_
        refine qa_iast (i := g) hx hb hK hP hD hS 7 0 rfl rfl (by omega) (by decide) dX0_poll_44 (fun H locs hP hD hS => ?_)
        have hP : va_P (dC, dI) vwCl (w0 cI cZ ad (n, sc, st, en, du, fo, fk, fv, fr, fc, fb, (upd fp g (fo j + nI 1)), ft)) H := hP
        have hD : va_D A (w0 cI cZ ad (n, sc, st, en, du, fo, fk, fv, fr, fc, fb, (upd fp g (fo j + nI 1)), ft)) := hD
        refine lv_aload_n hx hb dX0_poll_45 rfl (lv_at hl 1 rfl) ?_
        refine va_get (D := (dC, dI)) (ci := 0) (v := .ref (ad 1)) (C := RX0) (T := TX0) (N := 13) hx hb h00 (fun _ h => h) hown hK hP 0 rfl rfl 0 (by decide) L3 (fun _ h9 => h9) rfl dX0_poll_46 ?_
        refine lv_iload_n hx hb dX0_poll_49 rfl (lv_at hl 0 rfl) ?_
        refine qa_iald (i := j) hx hb hK hP 1 0 rfl rfl (by omega) (by decide) dX0_poll_50 ?_
        exact W.iret (v := fo j) hx hb hr (fun t ht hW => ⟨⟨_, (n, sc, st, en, du, fo, fk, fv, fr, fc, fb, (upd fp g (fo j + nI 1)), ft), rfl, Or.inl ⟨g, j, ⟨hg4, rfl⟩, hj, Or.inr ⟨hc, rfl, rfl⟩⟩, by rw [ht]; exact hP, va_K.moved hW.alike hK, hD⟩, hS.F ht⟩) hS.2.2 dX0_poll_51
      · skip
        have hc := q_nlt (by omega) (by omega) c2
        refine lv_iconst (v := (-1)) hx hb dX0_poll_29 (by decide) ?_
        exact W.iret (v := (-1)) hx hb hr (fun t ht hW => ⟨⟨_, (n, sc, st, en, du, fo, fk, fv, fr, fc, fb, fp, ft), rfl, Or.inl ⟨g, j, ⟨hg4, rfl⟩, hj, Or.inl ⟨by omega, rfl, rfl⟩⟩, by rw [ht]; exact hP, va_K.moved hW.alike hK, hD⟩, hS.F ht⟩) hS.2.2 dX0_poll_30
    · skip
      exact absurd c1 (by decide)
  · skip
    refine lv_if_ne (tgt := 10) hx hb dX0_poll_5 (by decide) (fun c1 => ?_) (fun c1 => ?_)
    · skip
      exact absurd rfl c1
    · skip
      refine lv_iconst (v := (-1)) hx hb dX0_poll_8 (by decide) ?_
      exact W.iret (v := (-1)) hx hb hr (fun t ht hW => ⟨⟨_, (n, sc, st, en, du, fo, fk, fv, fr, fc, fb, fp, ft), rfl, Or.inr ⟨hg, rfl, rfl⟩, by rw [ht]; exact hP, va_K.moved hW.alike hK, hD⟩, hS.F ht⟩) hS.2.2 dX0_poll_9
set_option maxHeartbeats 4000000 in
set_option maxRecDepth 100000 in
theorem c0_commit (l : Launch) (dC : Nat → ClassId) (dI : Nat → Nat → Nat) (cI cZ : ClassId) (ad : Nat → Nat) (sz : Nat) (n sc st en du : Nat) (fo fk fv fr fc fb fp ft : Nat → Int32) (x y : Int32)  : Met l yX0_commit wsX0_commit ({ frames := 1, cells := 0, slots := 0, locals := 30 } : Room) (va_Pc [.ref (ad 0), .int x, .int y] (pr_w dC dI cI cZ (w0 cI cZ ad (n, sc, st, en, du, fo, fk, fv, fr, fc, fb, fp, ft)) sz)) (va_Qi (fun (r : Int32) (u : C0) => (∃ g, gp x g ∧ ¬ y < nI st ∧ y ≤ nI en ∧ r = nI 1 ∧ u = (n, sc, st, en, du, fo, fk, fv, fr, fc, fb, upd fp g y, ft)) ∨ (((∀ g, ¬ gp x g) ∨ y < nI st ∨ ¬ y ≤ nI en) ∧ r = nI 0 ∧ u = (n, sc, st, en, du, fo, fk, fv, fr, fc, fb, fp, ft))) (at0 dC dI cI cZ ad (va_A (w0 cI cZ ad (n, sc, st, en, du, fo, fk, fv, fr, fc, fb, fp, ft)) sz)) (va_A (w0 cI cZ ad (n, sc, st, en, du, fo, fk, fv, fr, fc, fb, fp, ft)) sz)) 0 0 (va_A (w0 cI cZ ad (n, sc, st, en, du, fo, fk, fv, fr, fc, fb, fp, ft)) sz) := by
  refine Met.ofW (cc := cX0_commit) (maxL := 3) (ret := (some .boolean)) (by decide) rfl ?_
  intro p e s m args below meth c s₁ B hml hv
  obtain ⟨rfl, hsz, hP, hK, hD0⟩ := hv
  have hx := B.exec
  have hb := B.bytes
  have hr := B.returns
  have hts := atoms_spec (ws := wsX0_commit) B.pre
  have hown : s.vm.findClass RX0 = some m.cls := findClass_of_methodNamed B.named
  have hlocks := B.notSynchronized
  have h00 : ∀ w ∈ wsX00, w.before _ s = true := fun w h => hts w (List.mem_cons_of_mem _ (List.mem_append_right _ h))
  have L1 := hts (.fieldLink RX0 42 "SegmentLog" "startOffset" "I") (List.mem_of_getElem? (i := 1) rfl)
  have L2 := hts (.fieldLink RX0 45 "SegmentLog" "endOffset" "I") (List.mem_of_getElem? (i := 2) rfl)
  have L3 := hts (.fieldLink RX0 36 "SegmentLog" "positions" "[I") (List.mem_of_getElem? (i := 3) rfl)
  subst hsz
  have hD := hD0.self (sz := s.heap.size)
  generalize hAe : va_A (w0 cI cZ ad (n, sc, st, en, du, fo, fk, fv, fr, fc, fb, fp, ft)) s.heap.size = A at hD ⊢
  have hA : ∀ q : Nat, s.heap.size ≤ q → A q := fun q h => by rw [← hAe]; exact Or.inr h
  have hS : va_S A s.heap s.heap [] := va_S.rf
  have hP : va_P (dC, dI) vwCl (w0 cI cZ ad (n, sc, st, en, du, fo, fk, fv, fr, fc, fb, fp, ft)) s.heap := hP
  have hl := lv_entry ([.ref (ad 0), .int x, .int y]) (n := 3) (Nat.le_of_ble_eq_true rfl)
  rw [lg_entry_eq]
  generalize (lg_sl ([.ref (ad 0), .int x, .int y]) ++ List.replicate (3 - (lg_sl ([.ref (ad 0), .int x, .int y])).length) Slot.unset).toArray = ls at hl ⊢
  have hl : lv_has ls 3 [(0, .ref (ad 0)), (1, .int x), (2, .int y)] := hl
  refine lv_aload_n hx hb dX0_commit_0 rfl (lv_at hl 0 rfl) ?_
  refine lv_iload_n hx hb dX0_commit_1 rfl (lv_at hl 1 rfl) ?_
  refine vp_callSi (W.runV (As := [.int x]) (rest := []) ⟨hx, hb, hml, hown, hts⟩ (c0_isGroup l dC dI cI cZ ad n sc st en du fo fk fv fr fc fb fp ft x ) (cwV 1 hts gX0_commit_X0_isGroup rfl rfl rfl (by decide +kernel) ⟨Nat.le_of_ble_eq_true rfl, Nat.le_of_ble_eq_true rfl⟩) ⟨bl_r, va_recv hK hP (ci := 0) (q0 := 0) rfl rfl, fun U hU hW => ⟨rfl, by rw [hU]; exact hP, va_K.moved hW.alike hK⟩⟩ rfl rfl hl.1 rfl (lv_room (Nat.le_of_ble_eq_true rfl)) dX0_commit_2 ⟨by decide, by decide⟩) (fun r1 hq => ?_)
  rcases hq with ⟨g, hg, rfl⟩ | ⟨hg, rfl⟩
  · skip
    refine lv_if_eq (tgt := 24) hx hb dX0_commit_5 (by decide) (fun c1 => ?_) (fun c1 => ?_)
    · skip
      exact absurd c1 (by decide)
    · skip
      obtain ⟨hg4, rfl⟩ := hg
      refine lv_iload_n hx hb dX0_commit_8 rfl (lv_at hl 2 rfl) ?_
      refine lv_aload_n hx hb dX0_commit_9 rfl (lv_at hl 0 rfl) ?_
      refine va_get (D := (dC, dI)) (ci := 0) (v := .int (nI st)) (C := RX0) (T := TX0) (N := 13) hx hb h00 (fun _ h => h) hown hK hP 0 rfl rfl 10 (by decide) L1 (fun _ h9 => h9) rfl dX0_commit_10 ?_
      refine lv_icmp_lt (tgt := 24) hx hb dX0_commit_13 (by decide) (fun c2 => ?_) (fun c2 => ?_)
      · skip
        refine lv_iconst (v := nI 0) hx hb dX0_commit_24 (by decide) ?_
        exact W.zret (v := nI 0) hx hb hr (by decide) (fun t ht hW => ⟨⟨_, (n, sc, st, en, du, fo, fk, fv, fr, fc, fb, fp, ft), rfl, Or.inr ⟨Or.inr (Or.inl c2), rfl, rfl⟩, by rw [ht]; exact hP, va_K.moved hW.alike hK, hD⟩, hS.F ht⟩) hS.2.2 dX0_commit_25
      · skip
        refine lv_iload_n hx hb dX0_commit_16 rfl (lv_at hl 2 rfl) ?_
        refine lv_aload_n hx hb dX0_commit_17 rfl (lv_at hl 0 rfl) ?_
        refine va_get (D := (dC, dI)) (ci := 0) (v := .int (nI en)) (C := RX0) (T := TX0) (N := 13) hx hb h00 (fun _ h => h) hown hK hP 0 rfl rfl 11 (by decide) L2 (fun _ h9 => h9) rfl dX0_commit_18 ?_
        refine lv_icmp_le (tgt := 26) hx hb dX0_commit_21 (by decide) (fun c3 => ?_) (fun c3 => ?_)
        · skip
          refine lv_aload_n hx hb dX0_commit_26 rfl (lv_at hl 0 rfl) ?_
          refine va_get (D := (dC, dI)) (ci := 0) (v := .ref (ad 7)) (C := RX0) (T := TX0) (N := 13) hx hb h00 (fun _ h => h) hown hK hP 0 rfl rfl 8 (by decide) L3 (fun _ h9 => h9) rfl dX0_commit_27 ?_
          refine lv_iload_n hx hb dX0_commit_30 rfl (lv_at hl 1 rfl) ?_
          refine lv_iload_n hx hb dX0_commit_31 rfl (lv_at hl 2 rfl) ?_
          refine qa_iast (i := g) hx hb hK hP hD hS 7 0 rfl rfl (by omega) (by decide) dX0_commit_32 (fun H locs hP hD hS => ?_)
          have hP : va_P (dC, dI) vwCl (w0 cI cZ ad (n, sc, st, en, du, fo, fk, fv, fr, fc, fb, (upd fp g y), ft)) H := hP
          have hD : va_D A (w0 cI cZ ad (n, sc, st, en, du, fo, fk, fv, fr, fc, fb, (upd fp g y), ft)) := hD
          refine lv_iconst (v := nI 1) hx hb dX0_commit_33 (by decide) ?_
          exact W.zret (v := nI 1) hx hb hr (by decide) (fun t ht hW => ⟨⟨_, (n, sc, st, en, du, fo, fk, fv, fr, fc, fb, (upd fp g y), ft), rfl, Or.inl ⟨g, ⟨hg4, rfl⟩, c2, c3, rfl, rfl⟩, by rw [ht]; exact hP, va_K.moved hW.alike hK, hD⟩, hS.F ht⟩) hS.2.2 dX0_commit_34
        · skip
          refine lv_iconst (v := nI 0) hx hb dX0_commit_24 (by decide) ?_
          exact W.zret (v := nI 0) hx hb hr (by decide) (fun t ht hW => ⟨⟨_, (n, sc, st, en, du, fo, fk, fv, fr, fc, fb, fp, ft), rfl, Or.inr ⟨Or.inr (Or.inr c3), rfl, rfl⟩, by rw [ht]; exact hP, va_K.moved hW.alike hK, hD⟩, hS.F ht⟩) hS.2.2 dX0_commit_25
  · skip
    refine lv_if_eq (tgt := 24) hx hb dX0_commit_5 (by decide) (fun c1 => ?_) (fun c1 => ?_)
    · skip
      refine lv_iconst (v := nI 0) hx hb dX0_commit_24 (by decide) ?_
      exact W.zret (v := nI 0) hx hb hr (by decide) (fun t ht hW => ⟨⟨_, (n, sc, st, en, du, fo, fk, fv, fr, fc, fb, fp, ft), rfl, Or.inr ⟨Or.inl hg, rfl, rfl⟩, by rw [ht]; exact hP, va_K.moved hW.alike hK, hD⟩, hS.F ht⟩) hS.2.2 dX0_commit_25
    · skip
      exact absurd rfl c1
