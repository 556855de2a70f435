theorem q_max (a b : Nat) (ha : a < 2 ^ 31) (hb : b < 2 ^ 31) : (if nI a < nI b then nI b else nI a) = nI (max a b) := by
  by_cases h : nI a < nI b
  · rw [if_pos h, Nat.max_eq_right (Nat.le_of_lt (q_lt ha hb h))]
  · rw [if_neg h, Nat.max_eq_left (q_nlt ha hb h)]
/-- the positions behind a crash: those above END become END -/
def mnp (x : Int32) (f g : Nat → Int32) (i : Nat) : Prop := ∀ q, (q < i → g q = if x < f q then x else f q) ∧ (i ≤ q → g q = f q)
theorem mnp_0 {x : Int32} {f : Nat → Int32} : mnp x f f 0 := fun q => ⟨fun h => absurd h (Nat.not_lt_zero q), fun _ => rfl⟩
theorem mnp_s {x : Int32} {f g : Nat → Int32} {i : Nat} (h : mnp x f g i) : mnp x f (upd g i (if x < g i then x else g i)) (i + 1) := fun q => by
  refine ⟨fun hq => ?_, fun hq => ?_⟩
  · by_cases e : q = i
    · subst e; rw [pk_us, (h q).2 (Nat.le_refl q)]
    · rw [pk_un e]; exact (h q).1 (by omega)
  · rw [pk_un (by omega)]; exact (h q).2 (by omega)
set_option maxHeartbeats 4000000 in
set_option maxRecDepth 100000 in
theorem c0_crash (l : Launch) (dC : Nat → ClassId) (dI : Nat → Nat → Nat) (cI cZ : ClassId) (ad : Nat → Nat) (sz : Nat) (n sc st en du : Nat) (fo fk fv fr fc fb fp ft : Nat → Int32) (hs : sc ≤ 512) (hn : n ≤ 60) : Met l yX0_crash wsX0_crash ({ frames := 2, cells := 0, slots := 0, locals := 60 } : Room) (va_Pc [.ref (ad 0)] (pr_w dC dI cI cZ (w0 cI cZ ad (n, sc, st, en, du, fo, fk, fv, fr, fc, fb, fp, ft)) sz)) (va_Qi (fun (r : Int32) (u : C0) => ∃ (j k : Nat) (go gk gv gr gc gq : Nat → Int32), ix fo n (nI du) j ∧ r = nI (n - j) ∧ dr fo go j (n - j) n ∧ dr fk gk j (n - j) n ∧ dr fv gv j (n - j) n ∧ dr fr gr j (n - j) n ∧ dr fc gc j (n - j) n ∧ k ≤ sc ∧ (∀ i, k ≤ i → i < sc → ¬ fb i < nI du) ∧ (0 < k → fb (k - 1) < nI du) ∧ mnp (nI du) fp gq 4 ∧ u = (j, k + 1, st, du, du, go, gk, gv, gr, gc, upd fb k (nI du), gq, ft)) (at0 dC dI cI cZ ad (va_A (w0 cI cZ ad (n, sc, st, en, du, fo, fk, fv, fr, fc, fb, fp, ft)) sz)) (va_A (w0 cI cZ ad (n, sc, st, en, du, fo, fk, fv, fr, fc, fb, fp, ft)) sz)) 0 0 (va_A (w0 cI cZ ad (n, sc, st, en, du, fo, fk, fv, fr, fc, fb, fp, ft)) sz) := by
  refine Met.ofW (cc := cX0_crash) (maxL := 3) (ret := (some .int)) (by decide) rfl ?_
  intro p e s m args below meth c s₁ B hml hv
  obtain ⟨rfl, hsz, hP, hK, hD0⟩ := hv
  have hx := B.exec
  have hb := B.bytes
  have hr := B.returns
  have hts := atoms_spec (ws := wsX0_crash) B.pre
  have hown : s.vm.findClass RX0 = some m.cls := findClass_of_methodNamed B.named
  have hlocks := B.notSynchronized
  have h00 : ∀ w ∈ wsX00, w.before _ s = true := fun w h => hts w (List.mem_cons_of_mem _ (List.mem_append_right _ h))
  have L1 := hts (.fieldLink RX0 48 "SegmentLog" "durableOffset" "I") (List.mem_of_getElem? (i := 1) rfl)
  have L2 := hts (.fieldLink RX0 26 "SegmentLog" "recordCount" "I") (List.mem_of_getElem? (i := 2) rfl)
  have L3 := hts (.fieldLink RX0 45 "SegmentLog" "endOffset" "I") (List.mem_of_getElem? (i := 3) rfl)
  have L4 := hts (.fieldLink RX0 33 "SegmentLog" "segmentCount" "I") (List.mem_of_getElem? (i := 4) rfl)
  have L5 := hts (.fieldLink RX0 30 "SegmentLog" "bases" "[I") (List.mem_of_getElem? (i := 5) rfl)
  have L6 := hts (.fieldLink RX0 36 "SegmentLog" "positions" "[I") (List.mem_of_getElem? (i := 6) rfl)
  subst hsz
  have hD := hD0.self (sz := s.heap.size)
  generalize hAe : va_A (w0 cI cZ ad (n, sc, st, en, du, fo, fk, fv, fr, fc, fb, fp, ft)) s.heap.size = A at hD ⊢
  have hA : ∀ q : Nat, s.heap.size ≤ q → A q := fun q h => by rw [← hAe]; exact Or.inr h
  have hS : va_S A s.heap s.heap [] := va_S.rf
  have hP : va_P (dC, dI) vwCl (w0 cI cZ ad (n, sc, st, en, du, fo, fk, fv, fr, fc, fb, fp, ft)) s.heap := hP
  have hl := lv_entry ([.ref (ad 0)]) (n := 3) (Nat.le_of_ble_eq_true rfl)
  rw [lg_entry_eq]
  generalize (lg_sl ([.ref (ad 0)]) ++ List.replicate (3 - (lg_sl ([.ref (ad 0)])).length) Slot.unset).toArray = ls at hl ⊢
  have hl : lv_has ls 3 [(0, .ref (ad 0))] := hl
  refine lv_aload_n hx hb dX0_crash_0 rfl (lv_at hl 0 rfl) ?_
  refine lv_aload_n hx hb dX0_crash_1 rfl (lv_at hl 0 rfl) ?_
  refine lv_aload_n hx hb dX0_crash_2 rfl (lv_at hl 0 rfl) ?_
  refine va_get (D := (dC, dI)) (ci := 0) (v := .int (nI du)) (C := RX0) (T := TX0) (N := 13) hx hb h00 (fun _ h => h) hown hK hP 0 rfl rfl 12 (by decide) L1 (fun _ h9 => h9) rfl dX0_crash_3 ?_
  refine vp_callSi (W.runV (As := [.int (nI du)]) (rest := [.ref (ad 0)]) ⟨hx, hb, hml, hown, hts⟩ (c0_indexFrom l dC dI cI cZ ad n sc st en du fo fk fv fr fc fb fp ft (nI du) hn) (cwV 1 hts gX0_crash_X0_indexFrom rfl rfl rfl (by decide +kernel) ⟨Nat.le_of_ble_eq_true rfl, Nat.le_of_ble_eq_true rfl⟩) ⟨bl_r, va_recv hK hP (ci := 0) (q0 := 0) rfl rfl, fun U hU hW => ⟨rfl, by rw [hU]; exact hP, va_K.moved hW.alike hK⟩⟩ rfl rfl hl.1 rfl (lv_room (Nat.le_of_ble_eq_true rfl)) dX0_crash_6 ⟨by decide, by decide⟩) (fun r1 hq => ?_)
  obtain ⟨j, hj, rfl⟩ := hq
  have hjn := hj.1
  refine lv_aload_n hx hb dX0_crash_9 rfl (lv_at hl 0 rfl) ?_
  refine va_get (D := (dC, dI)) (ci := 0) (v := .int (nI n)) (C := RX0) (T := TX0) (N := 13) hx hb h00 (fun _ h => h) hown hK hP 0 rfl rfl 5 (by decide) L2 (fun _ h9 => h9) rfl dX0_crash_10 ?_
  have hFc := va_free (wc := w0 cI cZ ad (n, sc, st, en, du, fo, fk, fv, fr, fc, fb, fp, ft)) hD hS hA [0, 1, 2, 3, 4, 5, 6, 7, 8] rfl
  refine va_calli (va_runV (As := [.int (nI j), .int (nI n)]) (rest := []) ⟨hx, hb, hml, hown, hts⟩ (c0_dropRecords l dC dI cI cZ ad s.heap.size n sc st en du fo fk fv fr fc fb fp ft j n hjn (Nat.le_refl n) hn (fun i q1 q2 => by omega) (fun i q1 q2 => by omega)) (cwV 2 hts gX0_crash_X0_dropRecords rfl rfl rfl (by decide +kernel) ⟨Nat.le_of_ble_eq_true rfl, Nat.le_of_ble_eq_true rfl⟩) ⟨bl_w, va_recv hK hP (ci := 0) (q0 := 0) rfl rfl, fun U hU hW => ⟨rfl, by rw [hU], by rw [hU]; exact hP, va_K.moved hW.alike hK, hD.weaken (fun _ _ _ _ => trivial)⟩⟩ rfl rfl hl.1 rfl (lv_room (Nat.le_of_ble_eq_true rfl)) dX0_crash_13 ⟨by decide, by decide⟩) hS (fun q _ h => hFc q h) hFc (fun r2 u t H1 locs ht hvm hq hB hz1 hk1 hS => ?_)
  obtain ⟨rfl, go, gk, gv, gr, gc, hu, e1, e2, e3, e4, e5⟩ := hq
  subst hu
  obtain ⟨hP1, hK1, hD1⟩ := hB
  rw [ht] at hP1
  have hD1 := hD1.weaken (B := A) (fun k q _ h => hFc q.1 h)
  generalize H1 = H at hP1 hS ⊢
  have hP : va_P (dC, dI) vwCl (w0 cI cZ ad (n - (n - j), sc, st, en, du, go, gk, gv, gr, gc, fb, fp, ft)) H := hP1
  have hD : va_D A (w0 cI cZ ad (n - (n - j), sc, st, en, du, go, gk, gv, gr, gc, fb, fp, ft)) := hD1
  have hnj : n - (n - j) = j := by omega
  rw [hnj] at hP hD
  have hP : va_P (dC, dI) vwCl (w0 cI cZ ad (j, sc, st, en, du, go, gk, gv, gr, gc, fb, fp, ft)) H := hP
  have hD : va_D A (w0 cI cZ ad (j, sc, st, en, du, go, gk, gv, gr, gc, fb, fp, ft)) := hD
  refine lv_istore_n (lv' := [(1, .int (nI (n - j))), (0, .ref (ad 0))]) hx hb dX0_crash_16 rfl hl (by decide) rfl (fun ls hl => ?_)
  refine lv_aload_n hx hb dX0_crash_17 rfl (lv_at hl 1 rfl) ?_
  refine lv_aload_n hx hb dX0_crash_18 rfl (lv_at hl 1 rfl) ?_
  refine va_get (D := (dC, dI)) (ci := 0) (v := .int (nI du)) (C := RX0) (T := TX0) (N := 13) hx hb h00 (fun _ h => h) hown hK hP 0 rfl rfl 12 (by decide) L1 (fun _ h9 => h9) rfl dX0_crash_19 ?_
  refine va_put (D := (dC, dI)) (ci := 0) (v := .int (nI du)) (ty := .int) (C := RX0) (T := TX0) (N := 13) hx hb h00 (fun _ h => h) tyX0 tyX0_ok nmX0 hown hK hP hD hS 0 rfl rfl 11 (by decide) L3 (fun _ h9 => h9) rfl rfl rfl rfl (Nat.le_of_ble_eq_true rfl) dX0_crash_22 (fun H locs hP hD hS => ?_)
  have hP : va_P (dC, dI) vwCl (w0 cI cZ ad (j, sc, st, du, du, go, gk, gv, gr, gc, fb, fp, ft)) H := hP
  have hD : va_D A (w0 cI cZ ad (j, sc, st, du, du, go, gk, gv, gr, gc, fb, fp, ft)) := hD
  have tail : ∀ (k : Nat) (H : Heap) (locs : List Loc) (ls : Array Slot), k ≤ sc → (∀ i, k ≤ i → i < sc → ¬ fb i < nI du) → (0 < k → fb (k - 1) < nI du) → va_P (dC, dI) vwCl (w0 cI cZ ad (j, k, st, du, du, go, gk, gv, gr, gc, fb, fp, ft)) H → va_D A (w0 cI cZ ad (j, k, st, du, du, go, gk, gv, gr, gc, fb, fp, ft)) → va_S A s.heap H locs → lv_has ls 3 [(1, .int (nI (n - j))), (0, .ref (ad 0))] → W p l e (headSpec wsX0_crash ({ frames := 2, cells := 0, slots := 0, locals := 60 } : Room)).room s m ([.ref (ad 0)] : List Value).toArray below meth c H locs 0 0 (MQ below (va_Qi (fun (r : Int32) (u : C0) => ∃ (j k : Nat) (go gk gv gr gc gq : Nat → Int32), ix fo n (nI du) j ∧ r = nI (n - j) ∧ dr fo go j (n - j) n ∧ dr fk gk j (n - j) n ∧ dr fv gv j (n - j) n ∧ dr fr gr j (n - j) n ∧ dr fc gc j (n - j) n ∧ k ≤ sc ∧ (∀ i, k ≤ i → i < sc → ¬ fb i < nI du) ∧ (0 < k → fb (k - 1) < nI du) ∧ mnp (nI du) fp gq 4 ∧ u = (j, k + 1, st, du, du, go, gk, gv, gr, gc, upd fb k (nI du), gq, ft)) (at0 dC dI cI cZ ad A) A) ([.ref (ad 0)] : List Value).toArray s 0 0 A) (F0 m 63 ls []) := by
    intro k H locs ls q1 q2 q3 hP hD hS hl
    refine lv_aload_n hx hb dX0_crash_63 rfl (lv_at hl 1 rfl) ?_
    have hFc := va_free (wc := w0 cI cZ ad (j, k, st, du, du, go, gk, gv, gr, gc, fb, fp, ft)) hD hS hA [0, 1, 2, 3, 4, 5, 6, 7, 8] rfl
    refine va_callv (va_runV (As := []) (rest := []) ⟨hx, hb, hml, hown, hts⟩ (c0_openSegment l dC dI cI cZ ad H.size j k st du du go gk gv gr gc fb fp ft  (by omega)) (cwV 0 hts gX0_crash_X0_openSegment rfl rfl rfl (by decide +kernel) ⟨Nat.le_of_ble_eq_true rfl, Nat.le_of_ble_eq_true rfl⟩) ⟨bl_w, va_recv hK hP (ci := 0) (q0 := 0) rfl rfl, fun U hU hW => ⟨rfl, by rw [hU], by rw [hU]; exact hP, va_K.moved hW.alike hK, hD.weaken (fun _ _ _ _ => trivial)⟩⟩ rfl rfl hl.1 rfl (lv_room (Nat.le_of_ble_eq_true rfl)) dX0_crash_64 ⟨by decide, by decide⟩) hS (fun q _ h => hFc q h) hFc (fun u t H1 locs ht hvm hq hB hz1 hk1 hS => ?_)
    obtain ⟨n2, sc2, st2, en2, du2, fo2, fk2, fv2, fr2, fc2, fb2, fp2, ft2⟩ := u
    obtain ⟨hP1, hK1, hD1⟩ := hB
    rw [ht] at hP1
    try dsimp only at hq
    have hD1 := hD1.weaken (B := A) (fun k q _ h => hFc q.1 h)
    generalize H1 = H at hP1 hS ⊢
    have hP : va_P (dC, dI) vwCl (w0 cI cZ ad (n2, sc2, st2, en2, du2, fo2, fk2, fv2, fr2, fc2, fb2, fp2, ft2)) H := hP1
    have hD : va_D A (w0 cI cZ ad (n2, sc2, st2, en2, du2, fo2, fk2, fv2, fr2, fc2, fb2, fp2, ft2)) := hD1
    cases hq
    refine lv_iconst (v := nI 0) hx hb dX0_crash_67 (by decide) ?_
    refine lv_istore_n (lv' := [(2, .int (nI 0)), (1, .int (nI (n - j))), (0, .ref (ad 0))]) hx hb dX0_crash_68 rfl hl (by decide) rfl (fun ls hl => ?_)
    have loop2 : ∀ (z i : Nat) (gq : Nat → Int32) (H : Heap) (locs : List Loc) (ls : Array Slot), 5 ≤ i + z → i ≤ 4 → mnp (nI du) fp gq i → va_P (dC, dI) vwCl (w0 cI cZ ad (j, k + 1, st, du, du, go, gk, gv, gr, gc, (upd fb k (nI du)), gq, ft)) H → va_D A (w0 cI cZ ad (j, k + 1, st, du, du, go, gk, gv, gr, gc, (upd fb k (nI du)), gq, ft)) → va_S A s.heap H locs → lv_has ls 3 [(2, .int (nI i)), (1, .int (nI (n - j))), (0, .ref (ad 0))] → W p l e (headSpec wsX0_crash ({ frames := 2, cells := 0, slots := 0, locals := 60 } : Room)).room s m ([.ref (ad 0)] : List Value).toArray below meth c H locs 0 0 (MQ below (va_Qi (fun (r : Int32) (u : C0) => ∃ (j k : Nat) (go gk gv gr gc gq : Nat → Int32), ix fo n (nI du) j ∧ r = nI (n - j) ∧ dr fo go j (n - j) n ∧ dr fk gk j (n - j) n ∧ dr fv gv j (n - j) n ∧ dr fr gr j (n - j) n ∧ dr fc gc j (n - j) n ∧ k ≤ sc ∧ (∀ i, k ≤ i → i < sc → ¬ fb i < nI du) ∧ (0 < k → fb (k - 1) < nI du) ∧ mnp (nI du) fp gq 4 ∧ u = (j, k + 1, st, du, du, go, gk, gv, gr, gc, upd fb k (nI du), gq, ft)) (at0 dC dI cI cZ ad A) A) ([.ref (ad 0)] : List Value).toArray s 0 0 A) (F0 m 69 ls []) := by
      intro z
      induction z with
      | zero => intro i gq H locs ls h1 h2; omega
      | succ z ih =>
        intro i gq H locs ls p1 p2 p3 hP hD hS hl
        refine lv_iload_n hx hb dX0_crash_69 rfl (lv_at hl 0 rfl) ?_
        refine lv_iconst (v := nI 4) hx hb dX0_crash_70 (by decide) ?_
        refine lv_icmp_ge (tgt := 99) hx hb dX0_crash_71 (by decide) (fun c1 => ?_) (fun c1 => ?_)
        · skip
          have hi := q_le (by omega) (by omega) c1
          have hi : i = 4 := by omega
          subst hi
          refine lv_iload_n hx hb dX0_crash_99 rfl (lv_at hl 1 rfl) ?_
          exact W.iret (v := nI (n - j)) hx hb hr (fun t ht hW => ⟨⟨_, (j, k + 1, st, du, du, go, gk, gv, gr, gc, (upd fb k (nI du)), gq, ft), rfl, ⟨j, k, go, gk, gv, gr, gc, gq, hj, rfl, e1, e2, e3, e4, e5, q1, q2, q3, p3, rfl⟩, by rw [ht]; exact hP, va_K.moved hW.alike hK, hD⟩, hS.F ht⟩) hS.2.2 dX0_crash_100
        · skip
          have hi : i < 4 := q_nle (by omega) (by omega) c1
          refine lv_aload_n hx hb dX0_crash_74 rfl (lv_at hl 2 rfl) ?_
          refine va_get (D := (dC, dI)) (ci := 0) (v := .ref (ad 7)) (C := RX0) (T := TX0) (N := 13) hx hb h00 (fun _ h => h) hown hK hP 0 rfl rfl 8 (by decide) L6 (fun _ h9 => h9) rfl dX0_crash_75 ?_
          refine lv_iload_n hx hb dX0_crash_78 rfl (lv_at hl 0 rfl) ?_
          refine lv_aload_n hx hb dX0_crash_79 rfl (lv_at hl 2 rfl) ?_
          refine va_get (D := (dC, dI)) (ci := 0) (v := .ref (ad 7)) (C := RX0) (T := TX0) (N := 13) hx hb h00 (fun _ h => h) hown hK hP 0 rfl rfl 8 (by decide) L6 (fun _ h9 => h9) rfl dX0_crash_80 ?_
          refine lv_iload_n hx hb dX0_crash_83 rfl (lv_at hl 0 rfl) ?_
          refine qa_iald (i := i) hx hb hK hP 7 0 rfl rfl (by omega) (by decide) dX0_crash_84 ?_
          refine lv_aload_n hx hb dX0_crash_85 rfl (lv_at hl 2 rfl) ?_
          refine va_get (D := (dC, dI)) (ci := 0) (v := .int (nI du)) (C := RX0) (T := TX0) (N := 13) hx hb h00 (fun _ h => h) hown hK hP 0 rfl rfl 11 (by decide) L3 (fun _ h9 => h9) rfl dX0_crash_86 ?_
          refine va_mmin hx hb (hml.trans hl.1.symm) hown (hts (.methodLink RX0 66 Lib.Math.min.name) (List.mem_of_getElem? (i := 7) rfl)) (hts (.static Lib.Math.min.name) (List.mem_of_getElem? (i := 8) rfl)) (hts (.initialized "java/lang/Math") (List.mem_of_getElem? (i := 9) rfl)) (hts (.code Lib.Math.min.name Lib.Math.min.code 2 (some .int)) (List.mem_of_getElem? (i := 10) rfl)) (by decide) (Nat.le_of_ble_eq_true rfl) (Nat.zero_le _) (Nat.zero_le _) dX0_crash_89 ?_
          refine qa_iast (i := i) hx hb hK hP hD hS 7 0 rfl rfl (by omega) (by decide) dX0_crash_92 (fun H locs hP hD hS => ?_)
          have hP : va_P (dC, dI) vwCl (w0 cI cZ ad (j, k + 1, st, du, du, go, gk, gv, gr, gc, (upd fb k (nI du)), (upd gq i (if (nI du) < (gq i) then (nI du) else (gq i))), ft)) H := hP
          have hD : va_D A (w0 cI cZ ad (j, k + 1, st, du, du, go, gk, gv, gr, gc, (upd fb k (nI du)), (upd gq i (if (nI du) < (gq i) then (nI du) else (gq i))), ft)) := hD
          refine lv_iinc (v := nI (i + 1)) (lv' := [(2, .int (nI (i + 1))), (1, .int (nI (n - j))), (0, .ref (ad 0))]) hx hb dX0_crash_93 hl (k := 0) rfl (qa_inc1 i) (by decide) rfl (fun ls hl => ?_)
          refine lv_goto (tgt := 69) hx hb dX0_crash_96 (by decide) ?_
          exact ih (i + 1) _ _ _ ls (by omega) (by omega) (mnp_s p3) hP hD hS (lv_sub hl [0, 1, 2] rfl)
    exact loop2 5 0 fp _ _ ls (by omega) (by omega) mnp_0 hP hD hS (lv_sub hl [0, 1, 2] rfl)
  have loop : ∀ (k : Nat) (H : Heap) (locs : List Loc) (ls : Array Slot), k ≤ sc → (∀ i, k ≤ i → i < sc → ¬ fb i < nI du) → va_P (dC, dI) vwCl (w0 cI cZ ad (j, k, st, du, du, go, gk, gv, gr, gc, fb, fp, ft)) H → va_D A (w0 cI cZ ad (j, k, st, du, du, go, gk, gv, gr, gc, fb, fp, ft)) → va_S A s.heap H locs → lv_has ls 3 [(1, .int (nI (n - j))), (0, .ref (ad 0))] → W p l e (headSpec wsX0_crash ({ frames := 2, cells := 0, slots := 0, locals := 60 } : Room)).room s m ([.ref (ad 0)] : List Value).toArray below meth c H locs 0 0 (MQ below (va_Qi (fun (r : Int32) (u : C0) => ∃ (j k : Nat) (go gk gv gr gc gq : Nat → Int32), ix fo n (nI du) j ∧ r = nI (n - j) ∧ dr fo go j (n - j) n ∧ dr fk gk j (n - j) n ∧ dr fv gv j (n - j) n ∧ dr fr gr j (n - j) n ∧ dr fc gc j (n - j) n ∧ k ≤ sc ∧ (∀ i, k ≤ i → i < sc → ¬ fb i < nI du) ∧ (0 < k → fb (k - 1) < nI du) ∧ mnp (nI du) fp gq 4 ∧ u = (j, k + 1, st, du, du, go, gk, gv, gr, gc, upd fb k (nI du), gq, ft)) (at0 dC dI cI cZ ad A) A) ([.ref (ad 0)] : List Value).toArray s 0 0 A) (F0 m 25 ls []) := by
    intro k
    induction k with
    | zero =>
      intro H locs ls q1 q2 hP hD hS hl
      refine lv_aload_n hx hb dX0_crash_25 rfl (lv_at hl 1 rfl) ?_
      refine va_get (D := (dC, dI)) (ci := 0) (v := .int (nI 0)) (C := RX0) (T := TX0) (N := 13) hx hb h00 (fun _ h => h) hown hK hP 0 rfl rfl 7 (by decide) L4 (fun _ h9 => h9) rfl dX0_crash_26 ?_
      refine lv_if_le (tgt := 63) hx hb dX0_crash_29 (by decide) (fun c1 => ?_) (fun c1 => ?_)
      · skip
        exact tail 0 H locs ls q1 q2 (fun h => absurd h (Nat.lt_irrefl 0)) hP hD hS hl
      · skip
        exact absurd (by decide) c1
    | succ k ih =>
      intro H locs ls q1 q2 hP hD hS hl
      refine lv_aload_n hx hb dX0_crash_25 rfl (lv_at hl 1 rfl) ?_
      refine va_get (D := (dC, dI)) (ci := 0) (v := .int (nI (k + 1))) (C := RX0) (T := TX0) (N := 13) hx hb h00 (fun _ h => h) hown hK hP 0 rfl rfl 7 (by decide) L4 (fun _ h9 => h9) rfl dX0_crash_26 ?_
      refine lv_if_le (tgt := 63) hx hb dX0_crash_29 (by decide) (fun c1 => ?_) (fun c1 => ?_)
      · skip
        exact absurd c1 (nI_nle (by omega) (by omega))
      · skip
        refine lv_aload_n hx hb dX0_crash_32 rfl (lv_at hl 1 rfl) ?_
        refine va_get (D := (dC, dI)) (ci := 0) (v := .ref (ad 6)) (C := RX0) (T := TX0) (N := 13) hx hb h00 (fun _ h => h) hown hK hP 0 rfl rfl 6 (by decide) L5 (fun _ h9 => h9) rfl dX0_crash_33 ?_
        refine lv_aload_n hx hb dX0_crash_36 rfl (lv_at hl 1 rfl) ?_
        refine va_get (D := (dC, dI)) (ci := 0) (v := .int (nI (k + 1))) (C := RX0) (T := TX0) (N := 13) hx hb h00 (fun _ h => h) hown hK hP 0 rfl rfl 7 (by decide) L4 (fun _ h9 => h9) rfl dX0_crash_37 ?_
        refine lv_iconst (v := nI 1) hx hb dX0_crash_40 (by decide) ?_
        refine lv_isub hx hb dX0_crash_41 ?_
        refine qa_top (nI_pred' k) ?_
        refine qa_iald (i := k) hx hb hK hP 6 0 rfl rfl (by omega) (by decide) dX0_crash_42 ?_
        refine lv_aload_n hx hb dX0_crash_43 rfl (lv_at hl 1 rfl) ?_
        refine va_get (D := (dC, dI)) (ci := 0) (v := .int (nI du)) (C := RX0) (T := TX0) (N := 13) hx hb h00 (fun _ h => h) hown hK hP 0 rfl rfl 11 (by decide) L3 (fun _ h9 => h9) rfl dX0_crash_44 ?_
        refine lv_icmp_lt (tgt := 63) hx hb dX0_crash_47 (by decide) (fun c2 => ?_) (fun c2 => ?_)
        · skip
          exact tail (k + 1) H locs ls q1 q2 (fun _ => c2) hP hD hS hl
        · skip
          refine lv_aload_n hx hb dX0_crash_50 rfl (lv_at hl 1 rfl) ?_
          refine lv_dup hx hb dX0_crash_51 rfl ?_
          refine va_get (D := (dC, dI)) (ci := 0) (v := .int (nI (k + 1))) (C := RX0) (T := TX0) (N := 13) hx hb h00 (fun _ h => h) hown hK hP 0 rfl rfl 7 (by decide) L4 (fun _ h9 => h9) rfl dX0_crash_52 ?_
          refine lv_iconst (v := nI 1) hx hb dX0_crash_55 (by decide) ?_
          refine lv_isub hx hb dX0_crash_56 ?_
          refine qa_top (nI_pred' k) ?_
          refine va_put (D := (dC, dI)) (ci := 0) (v := .int (nI k)) (ty := .int) (C := RX0) (T := TX0) (N := 13) hx hb h00 (fun _ h => h) tyX0 tyX0_ok nmX0 hown hK hP hD hS 0 rfl rfl 7 (by decide) L4 (fun _ h9 => h9) rfl rfl rfl rfl (Nat.le_of_ble_eq_true rfl) dX0_crash_57 (fun H locs hP hD hS => ?_)
          have hP : va_P (dC, dI) vwCl (w0 cI cZ ad (j, k, st, du, du, go, gk, gv, gr, gc, fb, fp, ft)) H := hP
          have hD : va_D A (w0 cI cZ ad (j, k, st, du, du, go, gk, gv, gr, gc, fb, fp, ft)) := hD
          refine lv_goto (tgt := 25) hx hb dX0_crash_60 (by decide) ?_
          refine ih _ _ ls (by omega) (fun i p1 p2 => ?_) hP hD hS hl
          rcases Nat.lt_or_ge k i with h | h
          · exact q2 i h p2
          · have : i = k := by omega
            subst this; exact c2
  exact loop sc _ _ ls (Nat.le_refl sc) (fun i p1 p2 => by omega) hP hD hS (lv_sub hl [0, 1] rfl)
set_option maxHeartbeats 4000000 in
set_option maxRecDepth 100000 in
theorem c0_retain (l : Launch) (dC : Nat → ClassId) (dI : Nat → Nat → Nat) (cI cZ : ClassId) (ad : Nat → Nat) (sz : Nat) (n sc st en du : Nat) (fo fk fv fr fc fb fp ft : Nat → Int32) (x : Int32) (Bs : Nat → Nat) (hs : 1 ≤ sc) (hs2 : sc ≤ 513) (hn : n ≤ 60) (hdu : du ≤ 600) (hbs : ∀ i, i < sc → fb i = nI (Bs i) ∧ Bs i ≤ 600) (h1 : nb fr n) (h2 : nb fc n) : Met l yX0_retain wsX0_retain ({ frames := 2, cells := 0, slots := 0, locals := 60 } : Room) (va_Pc [.ref (ad 0), .int x] (pr_w dC dI cI cZ (w0 cI cZ ad (n, sc, st, en, du, fo, fk, fv, fr, fc, fb, fp, ft)) sz)) (va_Qi (fun (r : Int32) (u : C0) => (x < 0 ∧ r = -1 ∧ u = (n, sc, st, en, du, fo, fk, fv, fr, fc, fb, fp, ft)) ∨ (∃ (M d j : Nat) (go gk gv gr gc gb : Nat → Int32), x = nI M ∧ M < 2 ^ 31 ∧ d < sc ∧ (∀ i, i < d → ∃ z, ix fo n (fb (i + 1)) z ∧ M ≤ n - z) ∧ (d + 1 < sc → ∃ z, ix fo n (fb (d + 1)) z ∧ n - z < M) ∧ dr fb gb 0 d sc ∧ ix fo n (nI (Bs d)) j ∧ r = nI j ∧ dr fo go 0 j n ∧ dr fk gk 0 j n ∧ dr fv gv 0 j n ∧ dr fr gr 0 j n ∧ dr fc gc 0 j n ∧ u = (n - j, sc - d, Bs d, en, max du (Bs d), go, gk, gv, gr, gc, gb, fp, ft))) (at0 dC dI cI cZ ad (va_A (w0 cI cZ ad (n, sc, st, en, du, fo, fk, fv, fr, fc, fb, fp, ft)) sz)) (va_A (w0 cI cZ ad (n, sc, st, en, du, fo, fk, fv, fr, fc, fb, fp, ft)) sz)) 0 0 (va_A (w0 cI cZ ad (n, sc, st, en, du, fo, fk, fv, fr, fc, fb, fp, ft)) sz) := by
  refine Met.ofW (cc := cX0_retain) (maxL := 3) (ret := (some .int)) (by decide) rfl ?_
  intro p e s m args below meth c s₁ B hml hv
  obtain ⟨rfl, hsz, hP, hK, hD0⟩ := hv
  have hx := B.exec
  have hb := B.bytes
  have hr := B.returns
  have hts := atoms_spec (ws := wsX0_retain) B.pre
  have hown : s.vm.findClass RX0 = some m.cls := findClass_of_methodNamed B.named
  have hlocks := B.notSynchronized
  have h00 : ∀ w ∈ wsX00, w.before _ s = true := fun w h => hts w (List.mem_cons_of_mem _ (List.mem_append_right _ h))
  have L1 := hts (.fieldLink RX0 33 "SegmentLog" "segmentCount" "I") (List.mem_of_getElem? (i := 1) rfl)
  have L2 := hts (.fieldLink RX0 30 "SegmentLog" "bases" "[I") (List.mem_of_getElem? (i := 2) rfl)
  have L3 := hts (.fieldLink RX0 42 "SegmentLog" "startOffset" "I") (List.mem_of_getElem? (i := 3) rfl)
  have L4 := hts (.fieldLink RX0 48 "SegmentLog" "durableOffset" "I") (List.mem_of_getElem? (i := 4) rfl)
  subst hsz
  have hD := hD0.self (sz := s.heap.size)
  generalize hAe : va_A (w0 cI cZ ad (n, sc, st, en, du, fo, fk, fv, fr, fc, fb, fp, ft)) s.heap.size = A at hD ⊢
  have hA : ∀ q : Nat, s.heap.size ≤ q → A q := fun q h => by rw [← hAe]; exact Or.inr h
  have hS : va_S A s.heap s.heap [] := va_S.rf
  have hP : va_P (dC, dI) vwCl (w0 cI cZ ad (n, sc, st, en, du, fo, fk, fv, fr, fc, fb, fp, ft)) s.heap := hP
  have hl := lv_entry ([.ref (ad 0), .int x]) (n := 3) (Nat.le_of_ble_eq_true rfl)
  rw [lg_entry_eq]
  generalize (lg_sl ([.ref (ad 0), .int x]) ++ List.replicate (3 - (lg_sl ([.ref (ad 0), .int x])).length) Slot.unset).toArray = ls at hl ⊢
  have hl : lv_has ls 3 [(0, .ref (ad 0)), (1, .int x)] := hl
  refine lv_iload_n hx hb dX0_retain_0 rfl (lv_at hl 1 rfl) ?_
  refine lv_if_ge (tgt := 6) hx hb dX0_retain_1 (by decide) (fun c1 => ?_) (fun c1 => ?_)
  · skip
    obtain ⟨M, hM, rfl⟩ := pk_ge0 (Int32.not_lt.mpr c1)
    refine lv_iconst (v := nI 0) hx hb dX0_retain_6 (by decide) ?_
    refine lv_istore_n (lv' := [(2, .int (nI 0)), (0, .ref (ad 0)), (1, .int (nI M))]) hx hb dX0_retain_7 rfl hl (by decide) rfl (fun ls hl => ?_)
    have tail : ∀ (d : Nat) (ls : Array Slot), d < sc → (∀ i, i < d → ∃ z, ix fo n (fb (i + 1)) z ∧ M ≤ n - z) → (d + 1 < sc → ∃ z, ix fo n (fb (d + 1)) z ∧ n - z < M) → lv_has ls 3 [(2, .int (nI d)), (0, .ref (ad 0)), (1, .int (nI M))] → W p l e (headSpec wsX0_retain ({ frames := 2, cells := 0, slots := 0, locals := 60 } : Room)).room s m ([.ref (ad 0), .int (nI M)] : List Value).toArray below meth c s.heap [] 0 0 (MQ below (va_Qi (fun (r : Int32) (u : C0) => (nI M < 0 ∧ r = -1 ∧ u = (n, sc, st, en, du, fo, fk, fv, fr, fc, fb, fp, ft)) ∨ (∃ (M2 d j : Nat) (go gk gv gr gc gb : Nat → Int32), nI M = nI M2 ∧ M2 < 2 ^ 31 ∧ d < sc ∧ (∀ i, i < d → ∃ z, ix fo n (fb (i + 1)) z ∧ M2 ≤ n - z) ∧ (d + 1 < sc → ∃ z, ix fo n (fb (d + 1)) z ∧ n - z < M2) ∧ dr fb gb 0 d sc ∧ ix fo n (nI (Bs d)) j ∧ r = nI j ∧ dr fo go 0 j n ∧ dr fk gk 0 j n ∧ dr fv gv 0 j n ∧ dr fr gr 0 j n ∧ dr fc gc 0 j n ∧ u = (n - j, sc - d, Bs d, en, max du (Bs d), go, gk, gv, gr, gc, gb, fp, ft))) (at0 dC dI cI cZ ad A) A) ([.ref (ad 0), .int (nI M)] : List Value).toArray s 0 0 A) (F0 m 40 ls []) := by
      intro d ls q1 q2 q3 hl
      refine lv_aload_n hx hb dX0_retain_40 rfl (lv_at hl 1 rfl) ?_
      refine lv_iload_n hx hb dX0_retain_41 rfl (lv_at hl 0 rfl) ?_
      have hFc := va_free (wc := w0 cI cZ ad (n, sc, st, en, du, fo, fk, fv, fr, fc, fb, fp, ft)) hD hS hA [0, 1, 2, 3, 4, 5, 6, 7, 8] rfl
      refine va_callv (va_runV (As := [.int (nI d)]) (rest := []) ⟨hx, hb, hml, hown, hts⟩ (c0_dropFirstSegments l dC dI cI cZ ad s.heap.size n sc st en du fo fk fv fr fc fb fp ft d (by omega) hs2) (cwV 1 hts gX0_retain_X0_dropFirstSegments rfl rfl rfl (by decide +kernel) ⟨Nat.le_of_ble_eq_true rfl, Nat.le_of_ble_eq_true rfl⟩) ⟨bl_w, va_recv hK hP (ci := 0) (q0 := 0) rfl rfl, fun U hU hW => ⟨rfl, by rw [hU], by rw [hU]; exact hP, va_K.moved hW.alike hK, hD.weaken (fun _ _ _ _ => trivial)⟩⟩ rfl rfl hl.1 rfl (lv_room (Nat.le_of_ble_eq_true rfl)) dX0_retain_42 ⟨by decide, by decide⟩) hS (fun q _ h => hFc q h) hFc (fun u t H1 locs ht hvm hq hB hz1 hk1 hS => ?_)
      obtain ⟨gb, hu, eb⟩ := hq
      subst hu
      obtain ⟨hP1, hK1, hD1⟩ := hB
      rw [ht] at hP1
      have hD1 := hD1.weaken (B := A) (fun k q _ h => hFc q.1 h)
      generalize H1 = H at hP1 hS ⊢
      have hP : va_P (dC, dI) vwCl (w0 cI cZ ad (n, sc - d, st, en, du, fo, fk, fv, fr, fc, gb, fp, ft)) H := hP1
      have hD : va_D A (w0 cI cZ ad (n, sc - d, st, en, du, fo, fk, fv, fr, fc, gb, fp, ft)) := hD1
      have hb0 : gb 0 = nI (Bs d) := by rw [(eb 0).1 (by omega), if_neg (Nat.lt_irrefl 0), Nat.zero_add]; exact (hbs d q1).1
      have hbd := (hbs d q1).2
      refine lv_aload_n hx hb dX0_retain_45 rfl (lv_at hl 1 rfl) ?_
      refine lv_aload_n hx hb dX0_retain_46 rfl (lv_at hl 1 rfl) ?_
      refine va_get (D := (dC, dI)) (ci := 0) (v := .ref (ad 6)) (C := RX0) (T := TX0) (N := 13) hx hb h00 (fun _ h => h) hown hK hP 0 rfl rfl 6 (by decide) L2 (fun _ h9 => h9) rfl dX0_retain_47 ?_
      refine lv_iconst (v := nI 0) hx hb dX0_retain_50 (by decide) ?_
      refine qa_iald (i := 0) hx hb hK hP 6 0 rfl rfl (by omega) (by decide) dX0_retain_51 ?_
      refine qa_top hb0 ?_
      refine va_put (D := (dC, dI)) (ci := 0) (v := .int (nI (Bs d))) (ty := .int) (C := RX0) (T := TX0) (N := 13) hx hb h00 (fun _ h => h) tyX0 tyX0_ok nmX0 hown hK hP hD hS 0 rfl rfl 10 (by decide) L3 (fun _ h9 => h9) rfl rfl rfl rfl (Nat.le_of_ble_eq_true rfl) dX0_retain_52 (fun H locs hP hD hS => ?_)
      have hP : va_P (dC, dI) vwCl (w0 cI cZ ad (n, sc - d, Bs d, en, du, fo, fk, fv, fr, fc, gb, fp, ft)) H := hP
      have hD : va_D A (w0 cI cZ ad (n, sc - d, Bs d, en, du, fo, fk, fv, fr, fc, gb, fp, ft)) := hD
      refine lv_aload_n hx hb dX0_retain_55 rfl (lv_at hl 1 rfl) ?_
      refine lv_aload_n hx hb dX0_retain_56 rfl (lv_at hl 1 rfl) ?_
      refine va_get (D := (dC, dI)) (ci := 0) (v := .int (nI du)) (C := RX0) (T := TX0) (N := 13) hx hb h00 (fun _ h => h) hown hK hP 0 rfl rfl 12 (by decide) L4 (fun _ h9 => h9) rfl dX0_retain_57 ?_
      refine lv_aload_n hx hb dX0_retain_60 rfl (lv_at hl 1 rfl) ?_
      refine va_get (D := (dC, dI)) (ci := 0) (v := .int (nI (Bs d))) (C := RX0) (T := TX0) (N := 13) hx hb h00 (fun _ h => h) hown hK hP 0 rfl rfl 10 (by decide) L3 (fun _ h9 => h9) rfl dX0_retain_61 ?_
      refine va_mmax hx hb (hml.trans hl.1.symm) hown (hts (.methodLink RX0 82 Lib.Math.max.name) (List.mem_of_getElem? (i := 5) rfl)) (hts (.static Lib.Math.max.name) (List.mem_of_getElem? (i := 6) rfl)) (hts (.initialized "java/lang/Math") (List.mem_of_getElem? (i := 7) rfl)) (hts (.code Lib.Math.max.name Lib.Math.max.code 2 (some .int)) (List.mem_of_getElem? (i := 8) rfl)) (by decide) (Nat.le_of_ble_eq_true rfl) (Nat.zero_le _) (Nat.zero_le _) dX0_retain_64 ?_
      refine qa_top (y := nI (max du (Bs d))) (q_max du (Bs d) (by omega) (by omega)) ?_
      refine va_put (D := (dC, dI)) (ci := 0) (v := .int (nI (max du (Bs d)))) (ty := .int) (C := RX0) (T := TX0) (N := 13) hx hb h00 (fun _ h => h) tyX0 tyX0_ok nmX0 hown hK hP hD hS 0 rfl rfl 12 (by decide) L4 (fun _ h9 => h9) rfl rfl rfl rfl (Nat.le_of_ble_eq_true rfl) dX0_retain_67 (fun H locs hP hD hS => ?_)
      have hP : va_P (dC, dI) vwCl (w0 cI cZ ad (n, sc - d, Bs d, en, max du (Bs d), fo, fk, fv, fr, fc, gb, fp, ft)) H := hP
      have hD : va_D A (w0 cI cZ ad (n, sc - d, Bs d, en, max du (Bs d), fo, fk, fv, fr, fc, gb, fp, ft)) := hD
      refine lv_aload_n hx hb dX0_retain_70 rfl (lv_at hl 1 rfl) ?_
      refine lv_iconst (v := nI 0) hx hb dX0_retain_71 (by decide) ?_
      refine lv_aload_n hx hb dX0_retain_72 rfl (lv_at hl 1 rfl) ?_
      refine lv_aload_n hx hb dX0_retain_73 rfl (lv_at hl 1 rfl) ?_
      refine va_get (D := (dC, dI)) (ci := 0) (v := .int (nI (Bs d))) (C := RX0) (T := TX0) (N := 13) hx hb h00 (fun _ h => h) hown hK hP 0 rfl rfl 10 (by decide) L3 (fun _ h9 => h9) rfl dX0_retain_74 ?_
      refine vp_callSi (W.runV (As := [.int (nI (Bs d))]) (rest := [.int (nI 0), .ref (ad 0)]) ⟨hx, hb, hml, hown, hts⟩ (c0_indexFrom l dC dI cI cZ ad n (sc - d) (Bs d) en (max du (Bs d)) fo fk fv fr fc gb fp ft (nI (Bs d)) hn) (cwV 1 hts gX0_retain_X0_indexFrom rfl rfl rfl (by decide +kernel) ⟨Nat.le_of_ble_eq_true rfl, Nat.le_of_ble_eq_true rfl⟩) ⟨bl_r, va_recv hK hP (ci := 0) (q0 := 0) rfl rfl, fun U hU hW => ⟨rfl, by rw [hU]; exact hP, va_K.moved hW.alike hK⟩⟩ rfl rfl hl.1 rfl (lv_room (Nat.le_of_ble_eq_true rfl)) dX0_retain_77 ⟨by decide, by decide⟩) (fun r1 hq => ?_)
      obtain ⟨j, hj, rfl⟩ := hq
      have hjn := hj.1
      have hFc := va_free (wc := w0 cI cZ ad (n, sc - d, Bs d, en, max du (Bs d), fo, fk, fv, fr, fc, gb, fp, ft)) hD hS hA [0, 1, 2, 3, 4, 5, 6, 7, 8] rfl
      refine va_calli (va_runV (As := [.int (nI 0), .int (nI j)]) (rest := []) ⟨hx, hb, hml, hown, hts⟩ (c0_dropRecords l dC dI cI cZ ad H.size n (sc - d) (Bs d) en (max du (Bs d)) fo fk fv fr fc gb fp ft 0 j (Nat.zero_le j) hjn hn (fun i _ h => h1 i h) (fun i _ h => h2 i h)) (cwV 2 hts gX0_retain_X0_dropRecords rfl rfl rfl (by decide +kernel) ⟨Nat.le_of_ble_eq_true rfl, Nat.le_of_ble_eq_true rfl⟩) ⟨bl_w, va_recv hK hP (ci := 0) (q0 := 0) rfl rfl, fun U hU hW => ⟨rfl, by rw [hU], by rw [hU]; exact hP, va_K.moved hW.alike hK, hD.weaken (fun _ _ _ _ => trivial)⟩⟩ rfl rfl hl.1 rfl (lv_room (Nat.le_of_ble_eq_true rfl)) dX0_retain_80 ⟨by decide, by decide⟩) hS (fun q _ h => hFc q h) hFc (fun r2 u t H1 locs ht hvm hq hB hz1 hk1 hS => ?_)
      obtain ⟨rfl, go, gk, gv, gr, gc, hu, e1, e2, e3, e4, e5⟩ := hq
      subst hu
      obtain ⟨hP1, hK1, hD1⟩ := hB
      rw [ht] at hP1
      have hD1 := hD1.weaken (B := A) (fun k q _ h => hFc q.1 h)
      generalize H1 = H at hP1 hS ⊢
      have hP : va_P (dC, dI) vwCl (w0 cI cZ ad (n - j, sc - d, Bs d, en, max du (Bs d), go, gk, gv, gr, gc, gb, fp, ft)) H := hP1
      have hD : va_D A (w0 cI cZ ad (n - j, sc - d, Bs d, en, max du (Bs d), go, gk, gv, gr, gc, gb, fp, ft)) := hD1
      have hP : va_P (dC, dI) vwCl (w0 cI cZ ad (n - j, sc - d, Bs d, en, max du (Bs d), go, gk, gv, gr, gc, gb, fp, ft)) H := hP
      have hD : va_D A (w0 cI cZ ad (n - j, sc - d, Bs d, en, max du (Bs d), go, gk, gv, gr, gc, gb, fp, ft)) := hD
      exact W.iret (v := nI (j - 0)) hx hb hr (fun t ht hW => ⟨⟨_, (n - j, sc - d, Bs d, en, max du (Bs d), go, gk, gv, gr, gc, gb, fp, ft), rfl, Or.inr ⟨M, d, j, go, gk, gv, gr, gc, gb, rfl, hM, q1, q2, q3, eb, hj, rfl, e1, e2, e3, e4, e5, rfl⟩, by rw [ht]; exact hP, va_K.moved hW.alike hK, hD⟩, hS.F ht⟩) hS.2.2 dX0_retain_83
    have loop : ∀ (k d : Nat) (ls : Array Slot), sc ≤ d + k → d < sc → (∀ i, i < d → ∃ z, ix fo n (fb (i + 1)) z ∧ M ≤ n - z) → lv_has ls 3 [(2, .int (nI d)), (0, .ref (ad 0)), (1, .int (nI M))] → W p l e (headSpec wsX0_retain ({ frames := 2, cells := 0, slots := 0, locals := 60 } : Room)).room s m ([.ref (ad 0), .int (nI M)] : List Value).toArray below meth c s.heap [] 0 0 (MQ below (va_Qi (fun (r : Int32) (u : C0) => (nI M < 0 ∧ r = -1 ∧ u = (n, sc, st, en, du, fo, fk, fv, fr, fc, fb, fp, ft)) ∨ (∃ (M2 d j : Nat) (go gk gv gr gc gb : Nat → Int32), nI M = nI M2 ∧ M2 < 2 ^ 31 ∧ d < sc ∧ (∀ i, i < d → ∃ z, ix fo n (fb (i + 1)) z ∧ M2 ≤ n - z) ∧ (d + 1 < sc → ∃ z, ix fo n (fb (d + 1)) z ∧ n - z < M2) ∧ dr fb gb 0 d sc ∧ ix fo n (nI (Bs d)) j ∧ r = nI j ∧ dr fo go 0 j n ∧ dr fk gk 0 j n ∧ dr fv gv 0 j n ∧ dr fr gr 0 j n ∧ dr fc gc 0 j n ∧ u = (n - j, sc - d, Bs d, en, max du (Bs d), go, gk, gv, gr, gc, gb, fp, ft))) (at0 dC dI cI cZ ad A) A) ([.ref (ad 0), .int (nI M)] : List Value).toArray s 0 0 A) (F0 m 8 ls []) := by
      intro k
      induction k with
      | zero => intro d ls h1 h2; omega
      | succ k ih =>
        intro d ls p1 p2 p3 hl
        refine lv_iload_n hx hb dX0_retain_8 rfl (lv_at hl 0 rfl) ?_
        refine lv_aload_n hx hb dX0_retain_9 rfl (lv_at hl 1 rfl) ?_
        refine va_get (D := (dC, dI)) (ci := 0) (v := .int (nI sc)) (C := RX0) (T := TX0) (N := 13) hx hb h00 (fun _ h => h) hown hK hP 0 rfl rfl 7 (by decide) L1 (fun _ h9 => h9) rfl dX0_retain_10 ?_
        refine lv_iconst (v := nI 1) hx hb dX0_retain_13 (by decide) ?_
        refine lv_isub hx hb dX0_retain_14 ?_
        refine qa_top (pk_sub (a := sc) (b := 1) (by omega)) ?_
        refine lv_icmp_ge (tgt := 40) hx hb dX0_retain_15 (by decide) (fun c2 => ?_) (fun c2 => ?_)
        · skip
          have hc := q_le (by omega) (by omega) c2
          exact tail d ls p2 p3 (fun h => by omega) hl
        · skip
          have hc := q_nle (by omega) (by omega) c2
          refine lv_aload_n hx hb dX0_retain_18 rfl (lv_at hl 1 rfl) ?_
          refine lv_aload_n hx hb dX0_retain_19 rfl (lv_at hl 1 rfl) ?_
          refine va_get (D := (dC, dI)) (ci := 0) (v := .ref (ad 6)) (C := RX0) (T := TX0) (N := 13) hx hb h00 (fun _ h => h) hown hK hP 0 rfl rfl 6 (by decide) L2 (fun _ h9 => h9) rfl dX0_retain_20 ?_
          refine lv_iload_n hx hb dX0_retain_23 rfl (lv_at hl 0 rfl) ?_
          refine lv_iconst (v := nI 1) hx hb dX0_retain_24 (by decide) ?_
          refine lv_iadd hx hb dX0_retain_25 ?_
          refine qa_top (nI_add d 1) ?_
          refine qa_iald (i := d + 1) hx hb hK hP 6 0 rfl rfl (by omega) (by decide) dX0_retain_26 ?_
          refine vp_callSi (W.runV (As := [.int (fb (d + 1))]) (rest := []) ⟨hx, hb, hml, hown, hts⟩ (c0_recordsFrom l dC dI cI cZ ad n sc st en du fo fk fv fr fc fb fp ft (fb (d + 1)) hn) (cwV 1 hts gX0_retain_X0_recordsFrom rfl rfl rfl (by decide +kernel) ⟨Nat.le_of_ble_eq_true rfl, Nat.le_of_ble_eq_true rfl⟩) ⟨bl_r, va_recv hK hP (ci := 0) (q0 := 0) rfl rfl, fun U hU hW => ⟨rfl, by rw [hU]; exact hP, va_K.moved hW.alike hK⟩⟩ rfl rfl hl.1 rfl (lv_room (Nat.le_of_ble_eq_true rfl)) dX0_retain_27 ⟨by decide, by decide⟩) (fun r1 hq => ?_)
          obtain ⟨z, hz, rfl⟩ := hq
          refine lv_iload_n hx hb dX0_retain_30 rfl (lv_at hl 2 rfl) ?_
          refine lv_icmp_lt (tgt := 40) hx hb dX0_retain_31 (by decide) (fun c3 => ?_) (fun c3 => ?_)
          · skip
            exact tail d ls p2 p3 (fun _ => ⟨z, hz, q_lt (by omega) hM c3⟩) hl
          · skip
            refine lv_iinc (v := nI (d + 1)) (lv' := [(2, .int (nI (d + 1))), (0, .ref (ad 0)), (1, .int (nI M))]) hx hb dX0_retain_34 hl (k := 0) rfl (qa_inc1 d) (by decide) rfl (fun ls hl => ?_)
            refine lv_goto (tgt := 8) hx hb dX0_retain_37 (by decide) ?_
            exact ih (d + 1) ls (by omega) (by omega) (lt_s p3 ⟨z, hz, q_nlt (by omega) hM c3⟩) hl
    exact loop sc 0 ls (by omega) hs (fun i h => absurd h (Nat.not_lt_zero i)) hl
  · skip
    refine lv_iconst (v := (-1)) hx hb dX0_retain_4 (by decide) ?_
    exact W.iret (v := (-1)) hx hb hr (fun t ht hW => ⟨⟨_, (n, sc, st, en, du, fo, fk, fv, fr, fc, fb, fp, ft), rfl, Or.inl ⟨Int32.not_le.mp c1, rfl, rfl⟩, by rw [ht]; exact hP, va_K.moved hW.alike hK, hD⟩, hS.F ht⟩) hS.2.2 dX0_retain_5
