/-- the places a .. i - 1 of a row of booleans made false -/
def zr (f g : Nat → Int32) (a i : Nat) : Prop := ∀ q, g q = if a ≤ q ∧ q < i then nI 0 else f q
theorem zr_0 {f : Nat → Int32} {a : Nat} : zr f f a a := fun q => by rw [if_neg (by omega)]
theorem zr_s {f g : Nat → Int32} {a i : Nat} (h : zr f g a i) (h1 : a ≤ i) : zr f (upd g i (nI 0)) a (i + 1) := fun q => by
  by_cases e : q = i
  · subst e; rw [pk_us, if_pos (by omega)]
  · rw [pk_un e, h q]
    by_cases h2 : a ≤ q ∧ q < i
    · rw [if_pos h2, if_pos (by omega)]
    · rw [if_neg h2, if_neg (by omega)]
set_option maxHeartbeats 4000000 in
set_option maxRecDepth 100000 in
theorem c1_rolled (l : Launch) (dC : Nat → ClassId) (dI : Nat → Nat → Nat) (cI cZ : ClassId) (bd : Nat → Nat) (sz : Nat) (sg st en du th : Nat) (yk yv yr yt yl yb yp yg : Nat → Int32) (hs : sg < 4200) : Met l yX1_rolled wsX1_rolled ({ frames := 0, cells := 0, slots := 0, locals := 0 } : Room) (va_Pc [.ref (bd 0)] (pr_w dC dI cI cZ (w1 cI cZ bd (sg, st, en, du, th, yk, yv, yr, yt, yl, yb, yp, yg)) sz)) (va_Qv (fun u : C1 => u = (sg + 1, st, en, du, th, yk, yv, yr, yt, yl, upd yb sg (nI en), yp, yg)) (at1 dC dI cI cZ bd (va_A (w1 cI cZ bd (sg, st, en, du, th, yk, yv, yr, yt, yl, yb, yp, yg)) sz)) (va_A (w1 cI cZ bd (sg, st, en, du, th, yk, yv, yr, yt, yl, yb, yp, yg)) sz)) 0 0 (va_A (w1 cI cZ bd (sg, st, en, du, th, yk, yv, yr, yt, yl, yb, yp, yg)) sz) := by
  refine Met.ofW (cc := cX1_rolled) (maxL := 1) (ret := none) (by decide) rfl ?_
  intro p e s m args below meth c s₁ B hml hv
  obtain ⟨rfl, hsz, hP, hK, hD0⟩ := hv
  have hx := B.exec
  have hb := B.bytes
  have hr := B.returns
  have hts := atoms_spec (ws := wsX1_rolled) B.pre
  have hown : s.vm.findClass RX1 = some m.cls := findClass_of_methodNamed B.named
  have hlocks := B.notSynchronized
  have h00 : ∀ w ∈ wsX10, w.before _ s = true := fun w h => hts w (List.mem_cons_of_mem _ (List.mem_append_right _ h))
  have L1 := hts (.fieldLink RX1 26 "SegmentLogModel" "bases" "[I") (List.mem_of_getElem? (i := 1) rfl)
  have L2 := hts (.fieldLink RX1 29 "SegmentLogModel" "segments" "I") (List.mem_of_getElem? (i := 2) rfl)
  have L3 := hts (.fieldLink RX1 48 "SegmentLogModel" "end" "I") (List.mem_of_getElem? (i := 3) rfl)
  subst hsz
  have hD := hD0.self (sz := s.heap.size)
  generalize hAe : va_A (w1 cI cZ bd (sg, st, en, du, th, yk, yv, yr, yt, yl, yb, yp, yg)) s.heap.size = A at hD ⊢
  have hA : ∀ q : Nat, s.heap.size ≤ q → A q := fun q h => by rw [← hAe]; exact Or.inr h
  have hS : va_S A s.heap s.heap [] := va_S.rf
  have hP : va_P (dC, dI) vwCl (w1 cI cZ bd (sg, st, en, du, th, yk, yv, yr, yt, yl, yb, yp, yg)) s.heap := hP
  have hl := lv_entry ([.ref (bd 0)]) (n := 1) (Nat.le_of_ble_eq_true rfl)
  rw [lg_entry_eq]
  generalize (lg_sl ([.ref (bd 0)]) ++ List.replicate (1 - (lg_sl ([.ref (bd 0)])).length) Slot.unset).toArray = ls at hl ⊢
  have hl : lv_has ls 1 [(0, .ref (bd 0))] := hl
  refine lv_aload_n hx hb dX1_rolled_0 rfl (lv_at hl 0 rfl) ?_
  refine va_get (D := (dC, dI)) (ci := 1) (v := .ref (bd 6)) (C := RX1) (T := TX1) (N := 13) hx hb h00 (fun _ h => h) hown hK hP 0 rfl rfl 5 (by decide) L1 (fun _ h9 => h9) rfl dX1_rolled_1 ?_
  refine lv_aload_n hx hb dX1_rolled_4 rfl (lv_at hl 0 rfl) ?_
  refine va_get (D := (dC, dI)) (ci := 1) (v := .int (nI sg)) (C := RX1) (T := TX1) (N := 13) hx hb h00 (fun _ h => h) hown hK hP 0 rfl rfl 6 (by decide) L2 (fun _ h9 => h9) rfl dX1_rolled_5 ?_
  refine lv_aload_n hx hb dX1_rolled_8 rfl (lv_at hl 0 rfl) ?_
  refine va_get (D := (dC, dI)) (ci := 1) (v := .int (nI en)) (C := RX1) (T := TX1) (N := 13) hx hb h00 (fun _ h => h) hown hK hP 0 rfl rfl 8 (by decide) L3 (fun _ h9 => h9) rfl dX1_rolled_9 ?_
  refine qa_iast (i := sg) hx hb hK hP hD hS 6 0 rfl rfl (by omega) (by decide) dX1_rolled_12 (fun H locs hP hD hS => ?_)
  have hP : va_P (dC, dI) vwCl (w1 cI cZ bd (sg, st, en, du, th, yk, yv, yr, yt, yl, (upd yb sg (nI en)), yp, yg)) H := hP
  have hD : va_D A (w1 cI cZ bd (sg, st, en, du, th, yk, yv, yr, yt, yl, (upd yb sg (nI en)), yp, yg)) := hD
  refine lv_aload_n hx hb dX1_rolled_13 rfl (lv_at hl 0 rfl) ?_
  refine lv_aload_n hx hb dX1_rolled_14 rfl (lv_at hl 0 rfl) ?_
  refine va_get (D := (dC, dI)) (ci := 1) (v := .int (nI sg)) (C := RX1) (T := TX1) (N := 13) hx hb h00 (fun _ h => h) hown hK hP 0 rfl rfl 6 (by decide) L2 (fun _ h9 => h9) rfl dX1_rolled_15 ?_
  refine lv_iconst (v := nI 1) hx hb dX1_rolled_18 (by decide) ?_
  refine lv_iadd hx hb dX1_rolled_19 ?_
  refine qa_top (nI_add sg 1) ?_
  refine va_put (D := (dC, dI)) (ci := 1) (v := .int (nI (sg + 1))) (ty := .int) (C := RX1) (T := TX1) (N := 13) hx hb h00 (fun _ h => h) tyX1 tyX1_ok nmX1 hown hK hP hD hS 0 rfl rfl 6 (by decide) L2 (fun _ h9 => h9) rfl rfl rfl rfl (Nat.le_of_ble_eq_true rfl) dX1_rolled_20 (fun H locs hP hD hS => ?_)
  have hP : va_P (dC, dI) vwCl (w1 cI cZ bd (sg + 1, st, en, du, th, yk, yv, yr, yt, yl, (upd yb sg (nI en)), yp, yg)) H := hP
  have hD : va_D A (w1 cI cZ bd (sg + 1, st, en, du, th, yk, yv, yr, yt, yl, (upd yb sg (nI en)), yp, yg)) := hD
  exact W.vret hx hb hr (fun t ht hW => ⟨⟨(sg + 1, st, en, du, th, yk, yv, yr, yt, yl, (upd yb sg (nI en)), yp, yg), rfl, rfl, by rw [ht]; exact hP, va_K.moved hW.alike hK, hD⟩, hS.F ht⟩) hS.2.2 dX1_rolled_23
def pdp (x v ρ : Int32) (bl : Nat) (r : Int32) (u0 u : C1) : Prop := match u0 with
  | (sg, st, en, du, th, yk, yv, yr, yt, yl, yb, yp, yg) =>
    (∃ κ, κ < 16 ∧ x = nI κ ∧ ¬ cn yt st en = 60 ∧ r = nI en ∧ ((en + 1 = bl + 5 ∧ u = (sg + 1, st, en + 1, du, th, upd yk en (nI κ), upd yv en v, upd yr en ρ, upd yt en (nI 1), upd yl en (nI 0), upd yb sg (nI (en + 1)), yp, yg)) ∨ (¬ en + 1 = bl + 5 ∧ u = (sg, st, en + 1, du, th, upd yk en (nI κ), upd yv en v, upd yr en ρ, upd yt en (nI 1), upd yl en (nI 0), yb, yp, yg))))
    ∨ (∃ κ, κ < 16 ∧ x = nI κ ∧ cn yt st en = 60 ∧ r = -2 ∧ u = u0)
    ∨ ((∀ κ, κ < 16 → ¬ x = nI κ) ∧ r = -1 ∧ u = u0)
theorem q_no15 {x : Int32} (h : x < 0 ∨ nI 15 < x) : ∀ κ, κ < 16 → ¬ x = nI κ := fun κ hκ e => by
  subst e
  rcases h with h | h
  · exact nI_pos (by omega) h
  · have := q_lt (by omega) (by omega) h
    omega
set_option maxHeartbeats 4000000 in
set_option maxRecDepth 100000 in
theorem c1_put (l : Launch) (dC : Nat → ClassId) (dI : Nat → Nat → Nat) (cI cZ : ClassId) (bd : Nat → Nat) (sz : Nat) (sg st en du th : Nat) (yk yv yr yt yl yb yp yg : Nat → Int32) (x v ρ : Int32) (bl : Nat) (hs : 1 ≤ sg) (hs2 : sg < 4200) (hst : st ≤ 4200) (hen : en < 4199) (hbl : yb (sg - 1) = nI bl) (hbe : bl ≤ en) (hρ : vp_nar .boolean ρ = ρ) : Met l yX1_put wsX1_put ({ frames := 2, cells := 0, slots := 0, locals := 60 } : Room) (va_Pc [.ref (bd 0), .int x, .int v, .int (ρ)] (pr_w dC dI cI cZ (w1 cI cZ bd (sg, st, en, du, th, yk, yv, yr, yt, yl, yb, yp, yg)) sz)) (va_Qi (fun (r : Int32) (u : C1) => pdp x v ρ bl r (sg, st, en, du, th, yk, yv, yr, yt, yl, yb, yp, yg) u) (at1 dC dI cI cZ bd (va_A (w1 cI cZ bd (sg, st, en, du, th, yk, yv, yr, yt, yl, yb, yp, yg)) sz)) (va_A (w1 cI cZ bd (sg, st, en, du, th, yk, yv, yr, yt, yl, yb, yp, yg)) sz)) 0 0 (va_A (w1 cI cZ bd (sg, st, en, du, th, yk, yv, yr, yt, yl, yb, yp, yg)) sz) := by
  refine Met.ofW (cc := cX1_put) (maxL := 4) (ret := (some .int)) (by decide) rfl ?_
  intro p e s m args below meth c s₁ B hml hv
  obtain ⟨rfl, hsz, hP, hK, hD0⟩ := hv
  have hx := B.exec
  have hb := B.bytes
  have hr := B.returns
  have hts := atoms_spec (ws := wsX1_put) B.pre
  have hown : s.vm.findClass RX1 = some m.cls := findClass_of_methodNamed B.named
  have hlocks := B.notSynchronized
  have h00 : ∀ w ∈ wsX10, w.before _ s = true := fun w h => hts w (List.mem_cons_of_mem _ (List.mem_append_right _ h))
  have L1 := hts (.fieldLink RX1 51 "SegmentLogModel" "start" "I") (List.mem_of_getElem? (i := 1) rfl)
  have L2 := hts (.fieldLink RX1 48 "SegmentLogModel" "end" "I") (List.mem_of_getElem? (i := 2) rfl)
  have L3 := hts (.fieldLink RX1 9 "SegmentLogModel" "keys" "[I") (List.mem_of_getElem? (i := 3) rfl)
  have L4 := hts (.fieldLink RX1 13 "SegmentLogModel" "values" "[I") (List.mem_of_getElem? (i := 4) rfl)
  have L5 := hts (.fieldLink RX1 16 "SegmentLogModel" "removal" "[Z") (List.mem_of_getElem? (i := 5) rfl)
  have L6 := hts (.fieldLink RX1 20 "SegmentLogModel" "there" "[Z") (List.mem_of_getElem? (i := 6) rfl)
  have L7 := hts (.fieldLink RX1 23 "SegmentLogModel" "left" "[Z") (List.mem_of_getElem? (i := 7) rfl)
  have L8 := hts (.fieldLink RX1 26 "SegmentLogModel" "bases" "[I") (List.mem_of_getElem? (i := 8) rfl)
  have L9 := hts (.fieldLink RX1 29 "SegmentLogModel" "segments" "I") (List.mem_of_getElem? (i := 9) rfl)
  subst hsz
  have hD := hD0.self (sz := s.heap.size)
  generalize hAe : va_A (w1 cI cZ bd (sg, st, en, du, th, yk, yv, yr, yt, yl, yb, yp, yg)) s.heap.size = A at hD ⊢
  have hA : ∀ q : Nat, s.heap.size ≤ q → A q := fun q h => by rw [← hAe]; exact Or.inr h
  have hS : va_S A s.heap s.heap [] := va_S.rf
  have hP : va_P (dC, dI) vwCl (w1 cI cZ bd (sg, st, en, du, th, yk, yv, yr, yt, yl, yb, yp, yg)) s.heap := hP
  have hl := lv_entry ([.ref (bd 0), .int x, .int v, .int (ρ)]) (n := 4) (Nat.le_of_ble_eq_true rfl)
  rw [lg_entry_eq]
  generalize (lg_sl ([.ref (bd 0), .int x, .int v, .int (ρ)]) ++ List.replicate (4 - (lg_sl ([.ref (bd 0), .int x, .int v, .int (ρ)])).length) Slot.unset).toArray = ls at hl ⊢
  have hl : lv_has ls 4 [(0, .ref (bd 0)), (1, .int x), (2, .int v), (3, .int (ρ))] := hl
  refine lv_iload_n hx hb dX1_put_0 rfl (lv_at hl 1 rfl) ?_
  refine lv_if_lt (tgt := 10) hx hb dX1_put_1 (by decide) (fun c1 => ?_) (fun c1 => ?_)
  · skip
    refine lv_iconst (v := (-1)) hx hb dX1_put_10 (by decide) ?_
    exact W.iret (v := (-1)) hx hb hr (fun t ht hW => ⟨⟨_, (sg, st, en, du, th, yk, yv, yr, yt, yl, yb, yp, yg), rfl, Or.inr (Or.inr ⟨q_no15 (Or.inl c1), rfl, rfl⟩), by rw [ht]; exact hP, va_K.moved hW.alike hK, hD⟩, hS.F ht⟩) hS.2.2 dX1_put_11
  · skip
    obtain ⟨κ, hκ, rfl⟩ := pk_ge0 c1
    refine lv_iload_n hx hb dX1_put_4 rfl (lv_at hl 1 rfl) ?_
    refine lv_bipush (v := nI 15) hx hb dX1_put_5 (by decide) ?_
    refine lv_icmp_le (tgt := 12) hx hb dX1_put_7 (by decide) (fun c2 => ?_) (fun c2 => ?_)
    · skip
      have hk : κ < 16 := by have := q_le hκ (by omega) c2; omega
      refine lv_aload_n hx hb dX1_put_12 rfl (lv_at hl 0 rfl) ?_
      refine lv_aload_n hx hb dX1_put_13 rfl (lv_at hl 0 rfl) ?_
      refine va_get (D := (dC, dI)) (ci := 1) (v := .int (nI st)) (C := RX1) (T := TX1) (N := 13) hx hb h00 (fun _ h => h) hown hK hP 0 rfl rfl 7 (by decide) L1 (fun _ h9 => h9) rfl dX1_put_14 ?_
      refine lv_aload_n hx hb dX1_put_17 rfl (lv_at hl 0 rfl) ?_
      refine va_get (D := (dC, dI)) (ci := 1) (v := .int (nI en)) (C := RX1) (T := TX1) (N := 13) hx hb h00 (fun _ h => h) hown hK hP 0 rfl rfl 8 (by decide) L2 (fun _ h9 => h9) rfl dX1_put_18 ?_
      refine vp_callSi (W.runV (As := [.int (nI st), .int (nI en)]) (rest := []) ⟨hx, hb, hml, hown, hts⟩ (c1_count l dC dI cI cZ bd sg st en du th yk yv yr yt yl yb yp yg st en hst (by omega)) (cwV 2 hts gX1_put_X1_count rfl rfl rfl (by decide +kernel) ⟨Nat.le_of_ble_eq_true rfl, Nat.le_of_ble_eq_true rfl⟩) ⟨bl_r, va_recv hK hP (ci := 1) (q0 := 0) rfl rfl, fun U hU hW => ⟨rfl, by rw [hU]; exact hP, va_K.moved hW.alike hK⟩⟩ rfl rfl hl.1 rfl (lv_room (Nat.le_of_ble_eq_true rfl)) dX1_put_21 ⟨by decide, by decide⟩) (fun r1 hq => ?_)
      subst hq
      have hcl := cn_le yt st en
      refine lv_bipush (v := nI 60) hx hb dX1_put_24 (by decide) ?_
      refine lv_icmp_ne (tgt := 32) hx hb dX1_put_26 (by decide) (fun c3 => ?_) (fun c3 => ?_)
      · skip
        have hn6 : ¬ cn yt st en = 60 := fun h => c3 (by rw [h])
        refine lv_aload_n hx hb dX1_put_32 rfl (lv_at hl 0 rfl) ?_
        refine va_get (D := (dC, dI)) (ci := 1) (v := .ref (bd 1)) (C := RX1) (T := TX1) (N := 13) hx hb h00 (fun _ h => h) hown hK hP 0 rfl rfl 0 (by decide) L3 (fun _ h9 => h9) rfl dX1_put_33 ?_
        refine lv_aload_n hx hb dX1_put_36 rfl (lv_at hl 0 rfl) ?_
        refine va_get (D := (dC, dI)) (ci := 1) (v := .int (nI en)) (C := RX1) (T := TX1) (N := 13) hx hb h00 (fun _ h => h) hown hK hP 0 rfl rfl 8 (by decide) L2 (fun _ h9 => h9) rfl dX1_put_37 ?_
        refine lv_iload_n hx hb dX1_put_40 rfl (lv_at hl 1 rfl) ?_
        refine qa_iast (i := en) hx hb hK hP hD hS 1 0 rfl rfl (by omega) (by decide) dX1_put_41 (fun H locs hP hD hS => ?_)
        have hP : va_P (dC, dI) vwCl (w1 cI cZ bd (sg, st, en, du, th, (upd yk en (nI (κ))), yv, yr, yt, yl, yb, yp, yg)) H := hP
        have hD : va_D A (w1 cI cZ bd (sg, st, en, du, th, (upd yk en (nI (κ))), yv, yr, yt, yl, yb, yp, yg)) := hD
        refine lv_aload_n hx hb dX1_put_42 rfl (lv_at hl 0 rfl) ?_
        refine va_get (D := (dC, dI)) (ci := 1) (v := .ref (bd 2)) (C := RX1) (T := TX1) (N := 13) hx hb h00 (fun _ h => h) hown hK hP 0 rfl rfl 1 (by decide) L4 (fun _ h9 => h9) rfl dX1_put_43 ?_
        refine lv_aload_n hx hb dX1_put_46 rfl (lv_at hl 0 rfl) ?_
        refine va_get (D := (dC, dI)) (ci := 1) (v := .int (nI en)) (C := RX1) (T := TX1) (N := 13) hx hb h00 (fun _ h => h) hown hK hP 0 rfl rfl 8 (by decide) L2 (fun _ h9 => h9) rfl dX1_put_47 ?_
        refine lv_iload_n hx hb dX1_put_50 rfl (lv_at hl 2 rfl) ?_
        refine qa_iast (i := en) hx hb hK hP hD hS 2 0 rfl rfl (by omega) (by decide) dX1_put_51 (fun H locs hP hD hS => ?_)
        have hP : va_P (dC, dI) vwCl (w1 cI cZ bd (sg, st, en, du, th, (upd yk en (nI (κ))), (upd yv en v), yr, yt, yl, yb, yp, yg)) H := hP
        have hD : va_D A (w1 cI cZ bd (sg, st, en, du, th, (upd yk en (nI (κ))), (upd yv en v), yr, yt, yl, yb, yp, yg)) := hD
        refine lv_aload_n hx hb dX1_put_52 rfl (lv_at hl 0 rfl) ?_
        refine va_get (D := (dC, dI)) (ci := 1) (v := .ref (bd 3)) (C := RX1) (T := TX1) (N := 13) hx hb h00 (fun _ h => h) hown hK hP 0 rfl rfl 2 (by decide) L5 (fun _ h9 => h9) rfl dX1_put_53 ?_
        refine lv_aload_n hx hb dX1_put_56 rfl (lv_at hl 0 rfl) ?_
        refine va_get (D := (dC, dI)) (ci := 1) (v := .int (nI en)) (C := RX1) (T := TX1) (N := 13) hx hb h00 (fun _ h => h) hown hK hP 0 rfl rfl 8 (by decide) L2 (fun _ h9 => h9) rfl dX1_put_57 ?_
        refine lv_iload_n hx hb dX1_put_60 rfl (lv_at hl 3 rfl) ?_
        refine qa_zast (i := en) hx hb hK hP hD hS 3 1 rfl rfl (by omega) (by decide) hρ dX1_put_61 (fun H locs hP hD hS => ?_)
        have hP : va_P (dC, dI) vwCl (w1 cI cZ bd (sg, st, en, du, th, (upd yk en (nI (κ))), (upd yv en v), (upd yr en (ρ)), yt, yl, yb, yp, yg)) H := hP
        have hD : va_D A (w1 cI cZ bd (sg, st, en, du, th, (upd yk en (nI (κ))), (upd yv en v), (upd yr en (ρ)), yt, yl, yb, yp, yg)) := hD
        refine lv_aload_n hx hb dX1_put_62 rfl (lv_at hl 0 rfl) ?_
        refine va_get (D := (dC, dI)) (ci := 1) (v := .ref (bd 4)) (C := RX1) (T := TX1) (N := 13) hx hb h00 (fun _ h => h) hown hK hP 0 rfl rfl 3 (by decide) L6 (fun _ h9 => h9) rfl dX1_put_63 ?_
        refine lv_aload_n hx hb dX1_put_66 rfl (lv_at hl 0 rfl) ?_
        refine va_get (D := (dC, dI)) (ci := 1) (v := .int (nI en)) (C := RX1) (T := TX1) (N := 13) hx hb h00 (fun _ h => h) hown hK hP 0 rfl rfl 8 (by decide) L2 (fun _ h9 => h9) rfl dX1_put_67 ?_
        refine lv_iconst (v := nI 1) hx hb dX1_put_70 (by decide) ?_
        refine qa_zast (i := en) hx hb hK hP hD hS 4 1 rfl rfl (by omega) (by decide) (by decide) dX1_put_71 (fun H locs hP hD hS => ?_)
        have hP : va_P (dC, dI) vwCl (w1 cI cZ bd (sg, st, en, du, th, (upd yk en (nI (κ))), (upd yv en v), (upd yr en (ρ)), (upd yt en (nI 1)), yl, yb, yp, yg)) H := hP
        have hD : va_D A (w1 cI cZ bd (sg, st, en, du, th, (upd yk en (nI (κ))), (upd yv en v), (upd yr en (ρ)), (upd yt en (nI 1)), yl, yb, yp, yg)) := hD
        refine lv_aload_n hx hb dX1_put_72 rfl (lv_at hl 0 rfl) ?_
        refine va_get (D := (dC, dI)) (ci := 1) (v := .ref (bd 5)) (C := RX1) (T := TX1) (N := 13) hx hb h00 (fun _ h => h) hown hK hP 0 rfl rfl 4 (by decide) L7 (fun _ h9 => h9) rfl dX1_put_73 ?_
        refine lv_aload_n hx hb dX1_put_76 rfl (lv_at hl 0 rfl) ?_
        refine va_get (D := (dC, dI)) (ci := 1) (v := .int (nI en)) (C := RX1) (T := TX1) (N := 13) hx hb h00 (fun _ h => h) hown hK hP 0 rfl rfl 8 (by decide) L2 (fun _ h9 => h9) rfl dX1_put_77 ?_
        refine lv_iconst (v := nI 0) hx hb dX1_put_80 (by decide) ?_
        refine qa_zast (i := en) hx hb hK hP hD hS 5 1 rfl rfl (by omega) (by decide) (by decide) dX1_put_81 (fun H locs hP hD hS => ?_)
        have hP : va_P (dC, dI) vwCl (w1 cI cZ bd (sg, st, en, du, th, (upd yk en (nI (κ))), (upd yv en v), (upd yr en (ρ)), (upd yt en (nI 1)), (upd yl en (nI 0)), yb, yp, yg)) H := hP
        have hD : va_D A (w1 cI cZ bd (sg, st, en, du, th, (upd yk en (nI (κ))), (upd yv en v), (upd yr en (ρ)), (upd yt en (nI 1)), (upd yl en (nI 0)), yb, yp, yg)) := hD
        refine lv_aload_n hx hb dX1_put_82 rfl (lv_at hl 0 rfl) ?_
        refine lv_aload_n hx hb dX1_put_83 rfl (lv_at hl 0 rfl) ?_
        refine va_get (D := (dC, dI)) (ci := 1) (v := .int (nI en)) (C := RX1) (T := TX1) (N := 13) hx hb h00 (fun _ h => h) hown hK hP 0 rfl rfl 8 (by decide) L2 (fun _ h9 => h9) rfl dX1_put_84 ?_
        refine lv_iconst (v := nI 1) hx hb dX1_put_87 (by decide) ?_
        refine lv_iadd hx hb dX1_put_88 ?_
        refine qa_top (nI_add en 1) ?_
        refine va_put (D := (dC, dI)) (ci := 1) (v := .int (nI (en + 1))) (ty := .int) (C := RX1) (T := TX1) (N := 13) hx hb h00 (fun _ h => h) tyX1 tyX1_ok nmX1 hown hK hP hD hS 0 rfl rfl 8 (by decide) L2 (fun _ h9 => h9) rfl rfl rfl rfl (Nat.le_of_ble_eq_true rfl) dX1_put_89 (fun H locs hP hD hS => ?_)
        have hP : va_P (dC, dI) vwCl (w1 cI cZ bd (sg, st, en + 1, du, th, (upd yk en (nI (κ))), (upd yv en v), (upd yr en (ρ)), (upd yt en (nI 1)), (upd yl en (nI 0)), yb, yp, yg)) H := hP
        have hD : va_D A (w1 cI cZ bd (sg, st, en + 1, du, th, (upd yk en (nI (κ))), (upd yv en v), (upd yr en (ρ)), (upd yt en (nI 1)), (upd yl en (nI 0)), yb, yp, yg)) := hD
        refine lv_aload_n hx hb dX1_put_92 rfl (lv_at hl 0 rfl) ?_
        refine va_get (D := (dC, dI)) (ci := 1) (v := .ref (bd 6)) (C := RX1) (T := TX1) (N := 13) hx hb h00 (fun _ h => h) hown hK hP 0 rfl rfl 5 (by decide) L8 (fun _ h9 => h9) rfl dX1_put_93 ?_
        refine lv_aload_n hx hb dX1_put_96 rfl (lv_at hl 0 rfl) ?_
        refine va_get (D := (dC, dI)) (ci := 1) (v := .int (nI sg)) (C := RX1) (T := TX1) (N := 13) hx hb h00 (fun _ h => h) hown hK hP 0 rfl rfl 6 (by decide) L9 (fun _ h9 => h9) rfl dX1_put_97 ?_
        refine lv_iconst (v := nI 1) hx hb dX1_put_100 (by decide) ?_
        refine lv_isub hx hb dX1_put_101 ?_
        refine qa_top (pk_sub (a := sg) (b := 1) (by omega)) ?_
        refine qa_iald (i := sg - 1) hx hb hK hP 6 0 rfl rfl (by omega) (by decide) dX1_put_102 ?_
        refine lv_aload_n hx hb dX1_put_103 rfl (lv_at hl 0 rfl) ?_
        refine va_get (D := (dC, dI)) (ci := 1) (v := .int (nI (en + 1))) (C := RX1) (T := TX1) (N := 13) hx hb h00 (fun _ h => h) hown hK hP 0 rfl rfl 8 (by decide) L2 (fun _ h9 => h9) rfl dX1_put_104 ?_
        refine lv_iconst (v := nI 5) hx hb dX1_put_107 (by decide) ?_
        refine lv_isub hx hb dX1_put_108 ?_
        refine lv_icmp_ne (tgt := 116) hx hb dX1_put_109 (by decide) (fun c4 => ?_) (fun c4 => ?_)
        · skip
          rw [hbl] at c4
          have h5 : ¬ en + 1 = bl + 5 := fun h => c4 ((q_sub5 (by omega) (by omega)).mpr h)
          refine lv_aload_n hx hb dX1_put_116 rfl (lv_at hl 0 rfl) ?_
          refine va_get (D := (dC, dI)) (ci := 1) (v := .int (nI (en + 1))) (C := RX1) (T := TX1) (N := 13) hx hb h00 (fun _ h => h) hown hK hP 0 rfl rfl 8 (by decide) L2 (fun _ h9 => h9) rfl dX1_put_117 ?_
          refine lv_iconst (v := nI 1) hx hb dX1_put_120 (by decide) ?_
          refine lv_isub hx hb dX1_put_121 ?_
          refine qa_top (nI_pred' en) ?_
          exact W.iret (v := nI en) hx hb hr (fun t ht hW => ⟨⟨_, (sg, st, en + 1, du, th, (upd yk en (nI (κ))), (upd yv en v), (upd yr en (ρ)), (upd yt en (nI 1)), (upd yl en (nI 0)), yb, yp, yg), rfl, Or.inl ⟨κ, hk, rfl, hn6, rfl, Or.inr ⟨h5, rfl⟩⟩, by rw [ht]; exact hP, va_K.moved hW.alike hK, hD⟩, hS.F ht⟩) hS.2.2 dX1_put_122
        · skip
          rw [hbl] at c4
          have h5 : en + 1 = bl + 5 := (q_sub5 (by omega) (by omega)).mp c4
          refine lv_aload_n hx hb dX1_put_112 rfl (lv_at hl 0 rfl) ?_
          have hFc := va_free (wc := w1 cI cZ bd (sg, st, en + 1, du, th, (upd yk en (nI (κ))), (upd yv en v), (upd yr en (ρ)), (upd yt en (nI 1)), (upd yl en (nI 0)), yb, yp, yg)) hD hS hA [0, 1, 2, 3, 4, 5, 6, 7, 8] rfl
          refine va_callv (va_runV (As := []) (rest := []) ⟨hx, hb, hml, hown, hts⟩ (c1_rolled l dC dI cI cZ bd H.size sg st (en + 1) du th ((upd yk en (nI (κ)))) ((upd yv en v)) ((upd yr en (ρ))) ((upd yt en (nI 1))) ((upd yl en (nI 0))) yb yp yg  hs2) (cwV 0 hts gX1_put_X1_rolled rfl rfl rfl (by decide +kernel) ⟨Nat.le_of_ble_eq_true rfl, Nat.le_of_ble_eq_true rfl⟩) ⟨bl_w, va_recv hK hP (ci := 1) (q0 := 0) rfl rfl, fun U hU hW => ⟨rfl, by rw [hU], by rw [hU]; exact hP, va_K.moved hW.alike hK, hD.weaken (fun _ _ _ _ => trivial)⟩⟩ rfl rfl hl.1 rfl (lv_room (Nat.le_of_ble_eq_true rfl)) dX1_put_113 ⟨by decide, by decide⟩) hS (fun q _ h => hFc q h) hFc (fun u t H1 locs ht hvm hq hB hz1 hk1 hS => ?_)
          have hu := hq
          subst hu
          obtain ⟨hP1, hK1, hD1⟩ := hB
          rw [ht] at hP1
          have hD1 := hD1.weaken (B := A) (fun k q _ h => hFc q.1 h)
          generalize H1 = H at hP1 hS ⊢
          have hP : va_P (dC, dI) vwCl (w1 cI cZ bd (sg + 1, st, en + 1, du, th, (upd yk en (nI κ)), (upd yv en v), (upd yr en ρ), (upd yt en (nI 1)), (upd yl en (nI 0)), (upd yb sg (nI (en + 1))), yp, yg)) H := hP1
          have hD : va_D A (w1 cI cZ bd (sg + 1, st, en + 1, du, th, (upd yk en (nI κ)), (upd yv en v), (upd yr en ρ), (upd yt en (nI 1)), (upd yl en (nI 0)), (upd yb sg (nI (en + 1))), yp, yg)) := hD1
          refine lv_aload_n hx hb dX1_put_116 rfl (lv_at hl 0 rfl) ?_
          refine va_get (D := (dC, dI)) (ci := 1) (v := .int (nI (en + 1))) (C := RX1) (T := TX1) (N := 13) hx hb h00 (fun _ h => h) hown hK hP 0 rfl rfl 8 (by decide) L2 (fun _ h9 => h9) rfl dX1_put_117 ?_
          refine lv_iconst (v := nI 1) hx hb dX1_put_120 (by decide) ?_
          refine lv_isub hx hb dX1_put_121 ?_
          refine qa_top (nI_pred' en) ?_
          exact W.iret (v := nI en) hx hb hr (fun t ht hW => ⟨⟨_, (sg + 1, st, en + 1, du, th, (upd yk en (nI κ)), (upd yv en v), (upd yr en ρ), (upd yt en (nI 1)), (upd yl en (nI 0)), (upd yb sg (nI (en + 1))), yp, yg), rfl, Or.inl ⟨κ, hk, rfl, hn6, rfl, Or.inl ⟨h5, rfl⟩⟩, by rw [ht]; exact hP, va_K.moved hW.alike hK, hD⟩, hS.F ht⟩) hS.2.2 dX1_put_122
      · skip
        have hn6 : cn yt st en = 60 := nI_inj (by omega) (by omega) c3
        refine lv_bipush (v := (-2)) hx hb dX1_put_29 (by decide) ?_
        exact W.iret (v := (-2)) hx hb hr (fun t ht hW => ⟨⟨_, (sg, st, en, du, th, yk, yv, yr, yt, yl, yb, yp, yg), rfl, Or.inr (Or.inl ⟨κ, hk, rfl, hn6, rfl, rfl⟩), by rw [ht]; exact hP, va_K.moved hW.alike hK, hD⟩, hS.F ht⟩) hS.2.2 dX1_put_31
    · skip
      refine lv_iconst (v := (-1)) hx hb dX1_put_10 (by decide) ?_
      exact W.iret (v := (-1)) hx hb hr (fun t ht hW => ⟨⟨_, (sg, st, en, du, th, yk, yv, yr, yt, yl, yb, yp, yg), rfl, Or.inr (Or.inr ⟨q_no15 (Or.inr (Int32.not_le.mp c2)), rfl, rfl⟩), by rw [ht]; exact hP, va_K.moved hW.alike hK, hD⟩, hS.F ht⟩) hS.2.2 dX1_put_11
set_option maxHeartbeats 4000000 in
set_option maxRecDepth 100000 in
theorem c1_append (l : Launch) (dC : Nat → ClassId) (dI : Nat → Nat → Nat) (cI cZ : ClassId) (bd : Nat → Nat) (sz : Nat) (sg st en du th : Nat) (yk yv yr yt yl yb yp yg : Nat → Int32) (x v : Int32) (bl : Nat) (hs : 1 ≤ sg) (hs2 : sg < 4200) (hst : st ≤ 4200) (hen : en < 4199) (hbl : yb (sg - 1) = nI bl) (hbe : bl ≤ en) : Met l yX1_append wsX1_append ({ frames := 3, cells := 0, slots := 0, locals := 90 } : Room) (va_Pc [.ref (bd 0), .int x, .int v] (pr_w dC dI cI cZ (w1 cI cZ bd (sg, st, en, du, th, yk, yv, yr, yt, yl, yb, yp, yg)) sz)) (va_Qi (fun (r : Int32) (u : C1) => pdp x v (nI 0) bl r (sg, st, en, du, th, yk, yv, yr, yt, yl, yb, yp, yg) u) (at1 dC dI cI cZ bd (va_A (w1 cI cZ bd (sg, st, en, du, th, yk, yv, yr, yt, yl, yb, yp, yg)) sz)) (va_A (w1 cI cZ bd (sg, st, en, du, th, yk, yv, yr, yt, yl, yb, yp, yg)) sz)) 0 0 (va_A (w1 cI cZ bd (sg, st, en, du, th, yk, yv, yr, yt, yl, yb, yp, yg)) sz) := by
  refine Met.ofW (cc := cX1_append) (maxL := 3) (ret := (some .int)) (by decide) rfl ?_
  intro p e s m args below meth c s₁ B hml hv
  obtain ⟨rfl, hsz, hP, hK, hD0⟩ := hv
  have hx := B.exec
  have hb := B.bytes
  have hr := B.returns
  have hts := atoms_spec (ws := wsX1_append) B.pre
  have hown : s.vm.findClass RX1 = some m.cls := findClass_of_methodNamed B.named
  have hlocks := B.notSynchronized
  have h00 : ∀ w ∈ wsX10, w.before _ s = true := fun w h => hts w (List.mem_cons_of_mem _ (List.mem_append_right _ h))
  subst hsz
  have hD := hD0.self (sz := s.heap.size)
  generalize hAe : va_A (w1 cI cZ bd (sg, st, en, du, th, yk, yv, yr, yt, yl, yb, yp, yg)) s.heap.size = A at hD ⊢
  have hA : ∀ q : Nat, s.heap.size ≤ q → A q := fun q h => by rw [← hAe]; exact Or.inr h
  have hS : va_S A s.heap s.heap [] := va_S.rf
  have hP : va_P (dC, dI) vwCl (w1 cI cZ bd (sg, st, en, du, th, yk, yv, yr, yt, yl, yb, yp, yg)) s.heap := hP
  have hl := lv_entry ([.ref (bd 0), .int x, .int v]) (n := 3) (Nat.le_of_ble_eq_true rfl)
  rw [lg_entry_eq]
  generalize (lg_sl ([.ref (bd 0), .int x, .int v]) ++ List.replicate (3 - (lg_sl ([.ref (bd 0), .int x, .int v])).length) Slot.unset).toArray = ls at hl ⊢
  have hl : lv_has ls 3 [(0, .ref (bd 0)), (1, .int x), (2, .int v)] := hl
  refine lv_aload_n hx hb dX1_append_0 rfl (lv_at hl 0 rfl) ?_
  refine lv_iload_n hx hb dX1_append_1 rfl (lv_at hl 1 rfl) ?_
  refine lv_iload_n hx hb dX1_append_2 rfl (lv_at hl 2 rfl) ?_
  refine lv_iconst (v := nI 0) hx hb dX1_append_3 (by decide) ?_
  have hFc := va_free (wc := w1 cI cZ bd (sg, st, en, du, th, yk, yv, yr, yt, yl, yb, yp, yg)) hD hS hA [0, 1, 2, 3, 4, 5, 6, 7, 8] rfl
  refine va_calli (va_runV (As := [.int x, .int v, .int (nI 0)]) (rest := []) ⟨hx, hb, hml, hown, hts⟩ (c1_put l dC dI cI cZ bd s.heap.size sg st en du th yk yv yr yt yl yb yp yg x v (nI 0) bl hs hs2 hst hen hbl hbe nb_0) (cwV 3 hts gX1_append_X1_put rfl rfl rfl (by decide +kernel) ⟨Nat.le_of_ble_eq_true rfl, Nat.le_of_ble_eq_true rfl⟩) ⟨bl_w, va_recv hK hP (ci := 1) (q0 := 0) rfl rfl, fun U hU hW => ⟨rfl, by rw [hU], by rw [hU]; exact hP, va_K.moved hW.alike hK, hD.weaken (fun _ _ _ _ => trivial)⟩⟩ rfl rfl hl.1 rfl (lv_room (Nat.le_of_ble_eq_true rfl)) dX1_append_4 ⟨by decide, by decide⟩) hS (fun q _ h => hFc q h) hFc (fun r1 u t H1 locs ht hvm hq hB hz1 hk1 hS => ?_)
  obtain ⟨sg2, st2, en2, du2, th2, yk2, yv2, yr2, yt2, yl2, yb2, yp2, yg2⟩ := u
  obtain ⟨hP1, hK1, hD1⟩ := hB
  rw [ht] at hP1
  try dsimp only at hq
  have hD1 := hD1.weaken (B := A) (fun k q _ h => hFc q.1 h)
  generalize H1 = H at hP1 hS ⊢
  have hP : va_P (dC, dI) vwCl (w1 cI cZ bd (sg2, st2, en2, du2, th2, yk2, yv2, yr2, yt2, yl2, yb2, yp2, yg2)) H := hP1
  have hD : va_D A (w1 cI cZ bd (sg2, st2, en2, du2, th2, yk2, yv2, yr2, yt2, yl2, yb2, yp2, yg2)) := hD1
  exact W.iret (v := r1) hx hb hr (fun t ht hW => ⟨⟨_, (sg2, st2, en2, du2, th2, yk2, yv2, yr2, yt2, yl2, yb2, yp2, yg2), rfl, hq, by rw [ht]; exact hP, va_K.moved hW.alike hK, hD⟩, hS.F ht⟩) hS.2.2 dX1_append_7
set_option maxHeartbeats 4000000 in
set_option maxRecDepth 100000 in
theorem c1_remove (l : Launch) (dC : Nat → ClassId) (dI : Nat → Nat → Nat) (cI cZ : ClassId) (bd : Nat → Nat) (sz : Nat) (sg st en du th : Nat) (yk yv yr yt yl yb yp yg : Nat → Int32) (x : Int32) (bl : Nat) (hs : 1 ≤ sg) (hs2 : sg < 4200) (hst : st ≤ 4200) (hen : en < 4199) (hbl : yb (sg - 1) = nI bl) (hbe : bl ≤ en) : Met l yX1_remove wsX1_remove ({ frames := 3, cells := 0, slots := 0, locals := 90 } : Room) (va_Pc [.ref (bd 0), .int x] (pr_w dC dI cI cZ (w1 cI cZ bd (sg, st, en, du, th, yk, yv, yr, yt, yl, yb, yp, yg)) sz)) (va_Qi (fun (r : Int32) (u : C1) => pdp x (nI 0) (nI 1) bl r (sg, st, en, du, th, yk, yv, yr, yt, yl, yb, yp, yg) u) (at1 dC dI cI cZ bd (va_A (w1 cI cZ bd (sg, st, en, du, th, yk, yv, yr, yt, yl, yb, yp, yg)) sz)) (va_A (w1 cI cZ bd (sg, st, en, du, th, yk, yv, yr, yt, yl, yb, yp, yg)) sz)) 0 0 (va_A (w1 cI cZ bd (sg, st, en, du, th, yk, yv, yr, yt, yl, yb, yp, yg)) sz) := by
  refine Met.ofW (cc := cX1_remove) (maxL := 2) (ret := (some .int)) (by decide) rfl ?_
  intro p e s m args below meth c s₁ B hml hv
  obtain ⟨rfl, hsz, hP, hK, hD0⟩ := hv
  have hx := B.exec
  have hb := B.bytes
  have hr := B.returns
  have hts := atoms_spec (ws := wsX1_remove) B.pre
  have hown : s.vm.findClass RX1 = some m.cls := findClass_of_methodNamed B.named
  have hlocks := B.notSynchronized
  have h00 : ∀ w ∈ wsX10, w.before _ s = true := fun w h => hts w (List.mem_cons_of_mem _ (List.mem_append_right _ h))
  subst hsz
  have hD := hD0.self (sz := s.heap.size)
  generalize hAe : va_A (w1 cI cZ bd (sg, st, en, du, th, yk, yv, yr, yt, yl, yb, yp, yg)) s.heap.size = A at hD ⊢
  have hA : ∀ q : Nat, s.heap.size ≤ q → A q := fun q h => by rw [← hAe]; exact Or.inr h
  have hS : va_S A s.heap s.heap [] := va_S.rf
  have hP : va_P (dC, dI) vwCl (w1 cI cZ bd (sg, st, en, du, th, yk, yv, yr, yt, yl, yb, yp, yg)) s.heap := hP
  have hl := lv_entry ([.ref (bd 0), .int x]) (n := 2) (Nat.le_of_ble_eq_true rfl)
  rw [lg_entry_eq]
  generalize (lg_sl ([.ref (bd 0), .int x]) ++ List.replicate (2 - (lg_sl ([.ref (bd 0), .int x])).length) Slot.unset).toArray = ls at hl ⊢
  have hl : lv_has ls 2 [(0, .ref (bd 0)), (1, .int x)] := hl
  refine lv_aload_n hx hb dX1_remove_0 rfl (lv_at hl 0 rfl) ?_
  refine lv_iload_n hx hb dX1_remove_1 rfl (lv_at hl 1 rfl) ?_
  refine lv_iconst (v := nI 0) hx hb dX1_remove_2 (by decide) ?_
  refine lv_iconst (v := nI 1) hx hb dX1_remove_3 (by decide) ?_
  have hFc := va_free (wc := w1 cI cZ bd (sg, st, en, du, th, yk, yv, yr, yt, yl, yb, yp, yg)) hD hS hA [0, 1, 2, 3, 4, 5, 6, 7, 8] rfl
  refine va_calli (va_runV (As := [.int x, .int (nI 0), .int (nI 1)]) (rest := []) ⟨hx, hb, hml, hown, hts⟩ (c1_put l dC dI cI cZ bd s.heap.size sg st en du th yk yv yr yt yl yb yp yg x (nI 0) (nI 1) bl hs hs2 hst hen hbl hbe nb_1) (cwV 3 hts gX1_remove_X1_put rfl rfl rfl (by decide +kernel) ⟨Nat.le_of_ble_eq_true rfl, Nat.le_of_ble_eq_true rfl⟩) ⟨bl_w, va_recv hK hP (ci := 1) (q0 := 0) rfl rfl, fun U hU hW => ⟨rfl, by rw [hU], by rw [hU]; exact hP, va_K.moved hW.alike hK, hD.weaken (fun _ _ _ _ => trivial)⟩⟩ rfl rfl hl.1 rfl (lv_room (Nat.le_of_ble_eq_true rfl)) dX1_remove_4 ⟨by decide, by decide⟩) hS (fun q _ h => hFc q h) hFc (fun r1 u t H1 locs ht hvm hq hB hz1 hk1 hS => ?_)
  obtain ⟨sg2, st2, en2, du2, th2, yk2, yv2, yr2, yt2, yl2, yb2, yp2, yg2⟩ := u
  obtain ⟨hP1, hK1, hD1⟩ := hB
  rw [ht] at hP1
  try dsimp only at hq
  have hD1 := hD1.weaken (B := A) (fun k q _ h => hFc q.1 h)
  generalize H1 = H at hP1 hS ⊢
  have hP : va_P (dC, dI) vwCl (w1 cI cZ bd (sg2, st2, en2, du2, th2, yk2, yv2, yr2, yt2, yl2, yb2, yp2, yg2)) H := hP1
  have hD : va_D A (w1 cI cZ bd (sg2, st2, en2, du2, th2, yk2, yv2, yr2, yt2, yl2, yb2, yp2, yg2)) := hD1
  exact W.iret (v := r1) hx hb hr (fun t ht hW => ⟨⟨_, (sg2, st2, en2, du2, th2, yk2, yv2, yr2, yt2, yl2, yb2, yp2, yg2), rfl, hq, by rw [ht]; exact hP, va_K.moved hW.alike hK, hD⟩, hS.F ht⟩) hS.2.2 dX1_remove_7
set_option maxHeartbeats 4000000 in
set_option maxRecDepth 100000 in
theorem c1_flush (l : Launch) (dC : Nat → ClassId) (dI : Nat → Nat → Nat) (cI cZ : ClassId) (bd : Nat → Nat) (sz : Nat) (sg st en du th : Nat) (yk yv yr yt yl yb yp yg : Nat → Int32) (hd : du ≤ en) : Met l yX1_flush wsX1_flush ({ frames := 0, cells := 0, slots := 0, locals := 0 } : Room) (va_Pc [.ref (bd 0)] (pr_w dC dI cI cZ (w1 cI cZ bd (sg, st, en, du, th, yk, yv, yr, yt, yl, yb, yp, yg)) sz)) (va_Qi (fun (r : Int32) (u : C1) => r = nI (en - du) ∧ u = (sg, st, en, en, th, yk, yv, yr, yt, yl, yb, yp, yg)) (at1 dC dI cI cZ bd (va_A (w1 cI cZ bd (sg, st, en, du, th, yk, yv, yr, yt, yl, yb, yp, yg)) sz)) (va_A (w1 cI cZ bd (sg, st, en, du, th, yk, yv, yr, yt, yl, yb, yp, yg)) sz)) 0 0 (va_A (w1 cI cZ bd (sg, st, en, du, th, yk, yv, yr, yt, yl, yb, yp, yg)) sz) := by
  refine Met.ofW (cc := cX1_flush) (maxL := 2) (ret := (some .int)) (by decide) rfl ?_
  intro p e s m args below meth c s₁ B hml hv
  obtain ⟨rfl, hsz, hP, hK, hD0⟩ := hv
  have hx := B.exec
  have hb := B.bytes
  have hr := B.returns
  have hts := atoms_spec (ws := wsX1_flush) B.pre
  have hown : s.vm.findClass RX1 = some m.cls := findClass_of_methodNamed B.named
  have hlocks := B.notSynchronized
  have h00 : ∀ w ∈ wsX10, w.before _ s = true := fun w h => hts w (List.mem_cons_of_mem _ (List.mem_append_right _ h))
  have L1 := hts (.fieldLink RX1 48 "SegmentLogModel" "end" "I") (List.mem_of_getElem? (i := 1) rfl)
  have L2 := hts (.fieldLink RX1 64 "SegmentLogModel" "durable" "I") (List.mem_of_getElem? (i := 2) rfl)
  subst hsz
  have hD := hD0.self (sz := s.heap.size)
  generalize hAe : va_A (w1 cI cZ bd (sg, st, en, du, th, yk, yv, yr, yt, yl, yb, yp, yg)) s.heap.size = A at hD ⊢
  have hA : ∀ q : Nat, s.heap.size ≤ q → A q := fun q h => by rw [← hAe]; exact Or.inr h
  have hS : va_S A s.heap s.heap [] := va_S.rf
  have hP : va_P (dC, dI) vwCl (w1 cI cZ bd (sg, st, en, du, th, yk, yv, yr, yt, yl, yb, yp, yg)) s.heap := hP
  have hl := lv_entry ([.ref (bd 0)]) (n := 2) (Nat.le_of_ble_eq_true rfl)
  rw [lg_entry_eq]
  generalize (lg_sl ([.ref (bd 0)]) ++ List.replicate (2 - (lg_sl ([.ref (bd 0)])).length) Slot.unset).toArray = ls at hl ⊢
  have hl : lv_has ls 2 [(0, .ref (bd 0))] := hl
  refine lv_aload_n hx hb dX1_flush_0 rfl (lv_at hl 0 rfl) ?_
  refine va_get (D := (dC, dI)) (ci := 1) (v := .int (nI en)) (C := RX1) (T := TX1) (N := 13) hx hb h00 (fun _ h => h) hown hK hP 0 rfl rfl 8 (by decide) L1 (fun _ h9 => h9) rfl dX1_flush_1 ?_
  refine lv_aload_n hx hb dX1_flush_4 rfl (lv_at hl 0 rfl) ?_
  refine va_get (D := (dC, dI)) (ci := 1) (v := .int (nI du)) (C := RX1) (T := TX1) (N := 13) hx hb h00 (fun _ h => h) hown hK hP 0 rfl rfl 9 (by decide) L2 (fun _ h9 => h9) rfl dX1_flush_5 ?_
  refine lv_isub hx hb dX1_flush_8 ?_
  refine qa_top (pk_sub (a := en) (b := du) (by omega)) ?_
  refine lv_istore_n (lv' := [(1, .int (nI (en - du))), (0, .ref (bd 0))]) hx hb dX1_flush_9 rfl hl (by decide) rfl (fun ls hl => ?_)
  refine lv_aload_n hx hb dX1_flush_10 rfl (lv_at hl 1 rfl) ?_
  refine lv_aload_n hx hb dX1_flush_11 rfl (lv_at hl 1 rfl) ?_
  refine va_get (D := (dC, dI)) (ci := 1) (v := .int (nI en)) (C := RX1) (T := TX1) (N := 13) hx hb h00 (fun _ h => h) hown hK hP 0 rfl rfl 8 (by decide) L1 (fun _ h9 => h9) rfl dX1_flush_12 ?_
  refine va_put (D := (dC, dI)) (ci := 1) (v := .int (nI en)) (ty := .int) (C := RX1) (T := TX1) (N := 13) hx hb h00 (fun _ h => h) tyX1 tyX1_ok nmX1 hown hK hP hD hS 0 rfl rfl 9 (by decide) L2 (fun _ h9 => h9) rfl rfl rfl rfl (Nat.le_of_ble_eq_true rfl) dX1_flush_15 (fun H locs hP hD hS => ?_)
  have hP : va_P (dC, dI) vwCl (w1 cI cZ bd (sg, st, en, en, th, yk, yv, yr, yt, yl, yb, yp, yg)) H := hP
  have hD : va_D A (w1 cI cZ bd (sg, st, en, en, th, yk, yv, yr, yt, yl, yb, yp, yg)) := hD
  refine lv_iload_n hx hb dX1_flush_18 rfl (lv_at hl 0 rfl) ?_
  exact W.iret (v := nI (en - du)) hx hb hr (fun t ht hW => ⟨⟨_, (sg, st, en, en, th, yk, yv, yr, yt, yl, yb, yp, yg), rfl, ⟨rfl, rfl⟩, by rw [ht]; exact hP, va_K.moved hW.alike hK, hD⟩, hS.F ht⟩) hS.2.2 dX1_flush_19
set_option maxHeartbeats 4000000 in
set_option maxRecDepth 100000 in
theorem c1_roll (l : Launch) (dC : Nat → ClassId) (dI : Nat → Nat → Nat) (cI cZ : ClassId) (bd : Nat → Nat) (sz : Nat) (sg st en du th : Nat) (yk yv yr yt yl yb yp yg : Nat → Int32) (hs : 1 ≤ sg) (hs2 : sg < 4200) : Met l yX1_roll wsX1_roll ({ frames := 1, cells := 0, slots := 0, locals := 30 } : Room) (va_Pc [.ref (bd 0)] (pr_w dC dI cI cZ (w1 cI cZ bd (sg, st, en, du, th, yk, yv, yr, yt, yl, yb, yp, yg)) sz)) (va_Qi (fun (r : Int32) (u : C1) => (yb (sg - 1) = nI en ∧ r = nI 0 ∧ u = (sg, st, en, du, th, yk, yv, yr, yt, yl, yb, yp, yg)) ∨ (¬ yb (sg - 1) = nI en ∧ r = nI 1 ∧ u = (sg + 1, st, en, du, th, yk, yv, yr, yt, yl, upd yb sg (nI en), yp, yg))) (at1 dC dI cI cZ bd (va_A (w1 cI cZ bd (sg, st, en, du, th, yk, yv, yr, yt, yl, yb, yp, yg)) sz)) (va_A (w1 cI cZ bd (sg, st, en, du, th, yk, yv, yr, yt, yl, yb, yp, yg)) sz)) 0 0 (va_A (w1 cI cZ bd (sg, st, en, du, th, yk, yv, yr, yt, yl, yb, yp, yg)) sz) := by
  refine Met.ofW (cc := cX1_roll) (maxL := 1) (ret := (some .boolean)) (by decide) rfl ?_
  intro p e s m args below meth c s₁ B hml hv
  obtain ⟨rfl, hsz, hP, hK, hD0⟩ := hv
  have hx := B.exec
  have hb := B.bytes
  have hr := B.returns
  have hts := atoms_spec (ws := wsX1_roll) B.pre
  have hown : s.vm.findClass RX1 = some m.cls := findClass_of_methodNamed B.named
  have hlocks := B.notSynchronized
  have h00 : ∀ w ∈ wsX10, w.before _ s = true := fun w h => hts w (List.mem_cons_of_mem _ (List.mem_append_right _ h))
  have L1 := hts (.fieldLink RX1 26 "SegmentLogModel" "bases" "[I") (List.mem_of_getElem? (i := 1) rfl)
  have L2 := hts (.fieldLink RX1 29 "SegmentLogModel" "segments" "I") (List.mem_of_getElem? (i := 2) rfl)
  have L3 := hts (.fieldLink RX1 48 "SegmentLogModel" "end" "I") (List.mem_of_getElem? (i := 3) rfl)
  subst hsz
  have hD := hD0.self (sz := s.heap.size)
  generalize hAe : va_A (w1 cI cZ bd (sg, st, en, du, th, yk, yv, yr, yt, yl, yb, yp, yg)) s.heap.size = A at hD ⊢
  have hA : ∀ q : Nat, s.heap.size ≤ q → A q := fun q h => by rw [← hAe]; exact Or.inr h
  have hS : va_S A s.heap s.heap [] := va_S.rf
  have hP : va_P (dC, dI) vwCl (w1 cI cZ bd (sg, st, en, du, th, yk, yv, yr, yt, yl, yb, yp, yg)) s.heap := hP
  have hl := lv_entry ([.ref (bd 0)]) (n := 1) (Nat.le_of_ble_eq_true rfl)
  rw [lg_entry_eq]
  generalize (lg_sl ([.ref (bd 0)]) ++ List.replicate (1 - (lg_sl ([.ref (bd 0)])).length) Slot.unset).toArray = ls at hl ⊢
  have hl : lv_has ls 1 [(0, .ref (bd 0))] := hl
  refine lv_aload_n hx hb dX1_roll_0 rfl (lv_at hl 0 rfl) ?_
  refine va_get (D := (dC, dI)) (ci := 1) (v := .ref (bd 6)) (C := RX1) (T := TX1) (N := 13) hx hb h00 (fun _ h => h) hown hK hP 0 rfl rfl 5 (by decide) L1 (fun _ h9 => h9) rfl dX1_roll_1 ?_
  refine lv_aload_n hx hb dX1_roll_4 rfl (lv_at hl 0 rfl) ?_
  refine va_get (D := (dC, dI)) (ci := 1) (v := .int (nI sg)) (C := RX1) (T := TX1) (N := 13) hx hb h00 (fun _ h => h) hown hK hP 0 rfl rfl 6 (by decide) L2 (fun _ h9 => h9) rfl dX1_roll_5 ?_
  refine lv_iconst (v := nI 1) hx hb dX1_roll_8 (by decide) ?_
  refine lv_isub hx hb dX1_roll_9 ?_
  refine qa_top (pk_sub (a := sg) (b := 1) (by omega)) ?_
  refine qa_iald (i := sg - 1) hx hb hK hP 6 0 rfl rfl (by omega) (by decide) dX1_roll_10 ?_
  refine lv_aload_n hx hb dX1_roll_11 rfl (lv_at hl 0 rfl) ?_
  refine va_get (D := (dC, dI)) (ci := 1) (v := .int (nI en)) (C := RX1) (T := TX1) (N := 13) hx hb h00 (fun _ h => h) hown hK hP 0 rfl rfl 8 (by decide) L3 (fun _ h9 => h9) rfl dX1_roll_12 ?_
  refine lv_icmp_ne (tgt := 20) hx hb dX1_roll_15 (by decide) (fun c1 => ?_) (fun c1 => ?_)
  · skip
    refine lv_aload_n hx hb dX1_roll_20 rfl (lv_at hl 0 rfl) ?_
    have hFc := va_free (wc := w1 cI cZ bd (sg, st, en, du, th, yk, yv, yr, yt, yl, yb, yp, yg)) hD hS hA [0, 1, 2, 3, 4, 5, 6, 7, 8] rfl
    refine va_callv (va_runV (As := []) (rest := []) ⟨hx, hb, hml, hown, hts⟩ (c1_rolled l dC dI cI cZ bd s.heap.size sg st en du th yk yv yr yt yl yb yp yg  hs2) (cwV 0 hts gX1_roll_X1_rolled rfl rfl rfl (by decide +kernel) ⟨Nat.le_of_ble_eq_true rfl, Nat.le_of_ble_eq_true rfl⟩) ⟨bl_w, va_recv hK hP (ci := 1) (q0 := 0) rfl rfl, fun U hU hW => ⟨rfl, by rw [hU], by rw [hU]; exact hP, va_K.moved hW.alike hK, hD.weaken (fun _ _ _ _ => trivial)⟩⟩ rfl rfl hl.1 rfl (lv_room (Nat.le_of_ble_eq_true rfl)) dX1_roll_21 ⟨by decide, by decide⟩) hS (fun q _ h => hFc q h) hFc (fun u t H1 locs ht hvm hq hB hz1 hk1 hS => ?_)
    have hu := hq
    subst hu
    obtain ⟨hP1, hK1, hD1⟩ := hB
    rw [ht] at hP1
    have hD1 := hD1.weaken (B := A) (fun k q _ h => hFc q.1 h)
    generalize H1 = H at hP1 hS ⊢
    have hP : va_P (dC, dI) vwCl (w1 cI cZ bd (sg + 1, st, en, du, th, yk, yv, yr, yt, yl, (upd yb sg (nI en)), yp, yg)) H := hP1
    have hD : va_D A (w1 cI cZ bd (sg + 1, st, en, du, th, yk, yv, yr, yt, yl, (upd yb sg (nI en)), yp, yg)) := hD1
    refine lv_iconst (v := nI 1) hx hb dX1_roll_24 (by decide) ?_
    exact W.zret (v := nI 1) hx hb hr (by decide) (fun t ht hW => ⟨⟨_, (sg + 1, st, en, du, th, yk, yv, yr, yt, yl, (upd yb sg (nI en)), yp, yg), rfl, Or.inr ⟨c1, rfl, rfl⟩, by rw [ht]; exact hP, va_K.moved hW.alike hK, hD⟩, hS.F ht⟩) hS.2.2 dX1_roll_25
  · skip
    refine lv_iconst (v := nI 0) hx hb dX1_roll_18 (by decide) ?_
    exact W.zret (v := nI 0) hx hb hr (by decide) (fun t ht hW => ⟨⟨_, (sg, st, en, du, th, yk, yv, yr, yt, yl, yb, yp, yg), rfl, Or.inl ⟨c1, rfl, rfl⟩, by rw [ht]; exact hP, va_K.moved hW.alike hK, hD⟩, hS.F ht⟩) hS.2.2 dX1_roll_19
set_option maxHeartbeats 4000000 in
set_option maxRecDepth 100000 in
theorem c1_value (l : Launch) (dC : Nat → ClassId) (dI : Nat → Nat → Nat) (cI cZ : ClassId) (bd : Nat → Nat) (sz : Nat) (sg st en du th : Nat) (yk yv yr yt yl yb yp yg : Nat → Int32) (x : Int32) (hst : st ≤ 4200) (hen : en ≤ 4200) : Met l yX1_value wsX1_value ({ frames := 1, cells := 0, slots := 0, locals := 30 } : Room) (va_Pc [.ref (bd 0), .int x] (pr_w dC dI cI cZ (w1 cI cZ bd (sg, st, en, du, th, yk, yv, yr, yt, yl, yb, yp, yg)) sz)) (va_Qi (fun (r : Int32) (u : C1) => ((x < nI st ∨ nI en ≤ x) ∧ u = (sg, st, en, du, 1, yk, yv, yr, yt, yl, yb, yp, yg)) ∨ (∃ q, x = nI q ∧ st ≤ q ∧ q < en ∧ ((yt q = 0 ∧ u = (sg, st, en, du, 2, yk, yv, yr, yt, yl, yb, yp, yg)) ∨ (¬ yt q = 0 ∧ ((yr q = 0 ∧ r = yv q) ∨ (¬ yr q = 0 ∧ r = nI 0)) ∧ u = (sg, st, en, du, 0, yk, yv, yr, yt, yl, yb, yp, yg))))) (at1 dC dI cI cZ bd (va_A (w1 cI cZ bd (sg, st, en, du, th, yk, yv, yr, yt, yl, yb, yp, yg)) sz)) (va_A (w1 cI cZ bd (sg, st, en, du, th, yk, yv, yr, yt, yl, yb, yp, yg)) sz)) 0 0 (va_A (w1 cI cZ bd (sg, st, en, du, th, yk, yv, yr, yt, yl, yb, yp, yg)) sz) := by
  refine Met.ofW (cc := cX1_value) (maxL := 2) (ret := (some .int)) (by decide) rfl ?_
  intro p e s m args below meth c s₁ B hml hv
  obtain ⟨rfl, hsz, hP, hK, hD0⟩ := hv
  have hx := B.exec
  have hb := B.bytes
  have hr := B.returns
  have hts := atoms_spec (ws := wsX1_value) B.pre
  have hown : s.vm.findClass RX1 = some m.cls := findClass_of_methodNamed B.named
  have hlocks := B.notSynchronized
  have h00 : ∀ w ∈ wsX10, w.before _ s = true := fun w h => hts w (List.mem_cons_of_mem _ (List.mem_append_right _ h))
  have L1 := hts (.fieldLink RX1 39 "SegmentLogModel" "thrown" "I") (List.mem_of_getElem? (i := 1) rfl)
  have L2 := hts (.fieldLink RX1 16 "SegmentLogModel" "removal" "[Z") (List.mem_of_getElem? (i := 2) rfl)
  have L3 := hts (.fieldLink RX1 13 "SegmentLogModel" "values" "[I") (List.mem_of_getElem? (i := 3) rfl)
  subst hsz
  have hD := hD0.self (sz := s.heap.size)
  generalize hAe : va_A (w1 cI cZ bd (sg, st, en, du, th, yk, yv, yr, yt, yl, yb, yp, yg)) s.heap.size = A at hD ⊢
  have hA : ∀ q : Nat, s.heap.size ≤ q → A q := fun q h => by rw [← hAe]; exact Or.inr h
  have hS : va_S A s.heap s.heap [] := va_S.rf
  have hP : va_P (dC, dI) vwCl (w1 cI cZ bd (sg, st, en, du, th, yk, yv, yr, yt, yl, yb, yp, yg)) s.heap := hP
  have hl := lv_entry ([.ref (bd 0), .int x]) (n := 2) (Nat.le_of_ble_eq_true rfl)
  rw [lg_entry_eq]
  generalize (lg_sl ([.ref (bd 0), .int x]) ++ List.replicate (2 - (lg_sl ([.ref (bd 0), .int x])).length) Slot.unset).toArray = ls at hl ⊢
  have hl : lv_has ls 2 [(0, .ref (bd 0)), (1, .int x)] := hl
  refine lv_aload_n hx hb dX1_value_0 rfl (lv_at hl 0 rfl) ?_
  refine lv_aload_n hx hb dX1_value_1 rfl (lv_at hl 0 rfl) ?_
  refine lv_iload_n hx hb dX1_value_2 rfl (lv_at hl 1 rfl) ?_
  refine vp_callSi (W.runV (As := [.int x]) (rest := [.ref (bd 0)]) ⟨hx, hb, hml, hown, hts⟩ (c1_look l dC dI cI cZ bd sg st en du th yk yv yr yt yl yb yp yg x hst hen) (cwV 1 hts gX1_value_X1_look rfl rfl rfl (by decide +kernel) ⟨Nat.le_of_ble_eq_true rfl, Nat.le_of_ble_eq_true rfl⟩) ⟨bl_r, va_recv hK hP (ci := 1) (q0 := 0) rfl rfl, fun U hU hW => ⟨rfl, by rw [hU]; exact hP, va_K.moved hW.alike hK⟩⟩ rfl rfl hl.1 rfl (lv_room (Nat.le_of_ble_eq_true rfl)) dX1_value_3 ⟨by decide, by decide⟩) (fun r1 hq => ?_)
  rcases hq with ⟨hq, rfl⟩ | ⟨q, hq0, rfl, hq1, hq2, hq | hq⟩
  · skip
    refine va_put (D := (dC, dI)) (ci := 1) (v := .int (nI 1)) (ty := .int) (C := RX1) (T := TX1) (N := 13) hx hb h00 (fun _ h => h) tyX1 tyX1_ok nmX1 hown hK hP hD hS 0 rfl rfl 10 (by decide) L1 (fun _ h9 => h9) rfl rfl rfl rfl (Nat.le_of_ble_eq_true rfl) dX1_value_6 (fun H locs hP hD hS => ?_)
    have hP : va_P (dC, dI) vwCl (w1 cI cZ bd (sg, st, en, du, 1, yk, yv, yr, yt, yl, yb, yp, yg)) H := hP
    have hD : va_D A (w1 cI cZ bd (sg, st, en, du, 1, yk, yv, yr, yt, yl, yb, yp, yg)) := hD
    refine lv_aload_n hx hb dX1_value_9 rfl (lv_at hl 0 rfl) ?_
    refine va_get (D := (dC, dI)) (ci := 1) (v := .int (nI 1)) (C := RX1) (T := TX1) (N := 13) hx hb h00 (fun _ h => h) hown hK hP 0 rfl rfl 10 (by decide) L1 (fun _ h9 => h9) rfl dX1_value_10 ?_
    refine lv_if_gt (tgt := 25) hx hb dX1_value_13 (by decide) (fun c1 => ?_) (fun c1 => ?_)
    · skip
      refine lv_iconst (v := nI 0) hx hb dX1_value_25 (by decide) ?_
      refine lv_goto (tgt := 35) hx hb dX1_value_26 (by decide) ?_
      exact W.iret (v := nI 0) hx hb hr (fun t ht hW => ⟨⟨_, (sg, st, en, du, 1, yk, yv, yr, yt, yl, yb, yp, yg), rfl, Or.inl ⟨hq, rfl⟩, by rw [ht]; exact hP, va_K.moved hW.alike hK, hD⟩, hS.F ht⟩) hS.2.2 dX1_value_35
    · skip
      exact absurd (by decide) c1
  · skip
    obtain ⟨hq3, rfl⟩ := hq
    refine va_put (D := (dC, dI)) (ci := 1) (v := .int (nI 0)) (ty := .int) (C := RX1) (T := TX1) (N := 13) hx hb h00 (fun _ h => h) tyX1 tyX1_ok nmX1 hown hK hP hD hS 0 rfl rfl 10 (by decide) L1 (fun _ h9 => h9) rfl rfl rfl rfl (Nat.le_of_ble_eq_true rfl) dX1_value_6 (fun H locs hP hD hS => ?_)
    have hP : va_P (dC, dI) vwCl (w1 cI cZ bd (sg, st, en, du, 0, yk, yv, yr, yt, yl, yb, yp, yg)) H := hP
    have hD : va_D A (w1 cI cZ bd (sg, st, en, du, 0, yk, yv, yr, yt, yl, yb, yp, yg)) := hD
    refine lv_aload_n hx hb dX1_value_9 rfl (lv_at hl 0 rfl) ?_
    refine va_get (D := (dC, dI)) (ci := 1) (v := .int (nI 0)) (C := RX1) (T := TX1) (N := 13) hx hb h00 (fun _ h => h) hown hK hP 0 rfl rfl 10 (by decide) L1 (fun _ h9 => h9) rfl dX1_value_10 ?_
    refine lv_if_gt (tgt := 25) hx hb dX1_value_13 (by decide) (fun c1 => ?_) (fun c1 => ?_)
    · skip
      exact absurd c1 (by decide)
    · skip
      refine lv_aload_n hx hb dX1_value_16 rfl (lv_at hl 0 rfl) ?_
      refine va_get (D := (dC, dI)) (ci := 1) (v := .ref (bd 3)) (C := RX1) (T := TX1) (N := 13) hx hb h00 (fun _ h => h) hown hK hP 0 rfl rfl 2 (by decide) L2 (fun _ h9 => h9) rfl dX1_value_17 ?_
      refine lv_iload_n hx hb dX1_value_20 rfl (lv_at hl 1 rfl) ?_
      refine qa_zald (i := q) hx hb hK hP 3 1 rfl rfl (by omega) (by decide) dX1_value_21 ?_
      refine lv_if_eq (tgt := 29) hx hb dX1_value_22 (by decide) (fun c2 => ?_) (fun c2 => ?_)
      · skip
        refine lv_aload_n hx hb dX1_value_29 rfl (lv_at hl 0 rfl) ?_
        refine va_get (D := (dC, dI)) (ci := 1) (v := .ref (bd 2)) (C := RX1) (T := TX1) (N := 13) hx hb h00 (fun _ h => h) hown hK hP 0 rfl rfl 1 (by decide) L3 (fun _ h9 => h9) rfl dX1_value_30 ?_
        refine lv_iload_n hx hb dX1_value_33 rfl (lv_at hl 1 rfl) ?_
        refine qa_iald (i := q) hx hb hK hP 2 0 rfl rfl (by omega) (by decide) dX1_value_34 ?_
        exact W.iret (v := yv q) hx hb hr (fun t ht hW => ⟨⟨_, (sg, st, en, du, 0, yk, yv, yr, yt, yl, yb, yp, yg), rfl, Or.inr ⟨q, rfl, hq1, hq2, Or.inr ⟨hq3, Or.inl ⟨c2, rfl⟩, rfl⟩⟩, by rw [ht]; exact hP, va_K.moved hW.alike hK, hD⟩, hS.F ht⟩) hS.2.2 dX1_value_35
      · skip
        refine lv_iconst (v := nI 0) hx hb dX1_value_25 (by decide) ?_
        refine lv_goto (tgt := 35) hx hb dX1_value_26 (by decide) ?_
        exact W.iret (v := nI 0) hx hb hr (fun t ht hW => ⟨⟨_, (sg, st, en, du, 0, yk, yv, yr, yt, yl, yb, yp, yg), rfl, Or.inr ⟨q, rfl, hq1, hq2, Or.inr ⟨hq3, Or.inr ⟨c2, rfl⟩, rfl⟩⟩, by rw [ht]; exact hP, va_K.moved hW.alike hK, hD⟩, hS.F ht⟩) hS.2.2 dX1_value_35
  · skip
    obtain ⟨hq3, rfl⟩ := hq
    refine va_put (D := (dC, dI)) (ci := 1) (v := .int (nI 2)) (ty := .int) (C := RX1) (T := TX1) (N := 13) hx hb h00 (fun _ h => h) tyX1 tyX1_ok nmX1 hown hK hP hD hS 0 rfl rfl 10 (by decide) L1 (fun _ h9 => h9) rfl rfl rfl rfl (Nat.le_of_ble_eq_true rfl) dX1_value_6 (fun H locs hP hD hS => ?_)
    have hP : va_P (dC, dI) vwCl (w1 cI cZ bd (sg, st, en, du, 2, yk, yv, yr, yt, yl, yb, yp, yg)) H := hP
    have hD : va_D A (w1 cI cZ bd (sg, st, en, du, 2, yk, yv, yr, yt, yl, yb, yp, yg)) := hD
    refine lv_aload_n hx hb dX1_value_9 rfl (lv_at hl 0 rfl) ?_
    refine va_get (D := (dC, dI)) (ci := 1) (v := .int (nI 2)) (C := RX1) (T := TX1) (N := 13) hx hb h00 (fun _ h => h) hown hK hP 0 rfl rfl 10 (by decide) L1 (fun _ h9 => h9) rfl dX1_value_10 ?_
    refine lv_if_gt (tgt := 25) hx hb dX1_value_13 (by decide) (fun c1 => ?_) (fun c1 => ?_)
    · skip
      refine lv_iconst (v := nI 0) hx hb dX1_value_25 (by decide) ?_
      refine lv_goto (tgt := 35) hx hb dX1_value_26 (by decide) ?_
      exact W.iret (v := nI 0) hx hb hr (fun t ht hW => ⟨⟨_, (sg, st, en, du, 2, yk, yv, yr, yt, yl, yb, yp, yg), rfl, Or.inr ⟨q, rfl, hq1, hq2, Or.inl ⟨hq3, rfl⟩⟩, by rw [ht]; exact hP, va_K.moved hW.alike hK, hD⟩, hS.F ht⟩) hS.2.2 dX1_value_35
    · skip
      exact absurd (by decide) c1
set_option maxHeartbeats 4000000 in
set_option maxRecDepth 100000 in
theorem c1_key (l : Launch) (dC : Nat → ClassId) (dI : Nat → Nat → Nat) (cI cZ : ClassId) (bd : Nat → Nat) (sz : Nat) (sg st en du th : Nat) (yk yv yr yt yl yb yp yg : Nat → Int32) (x : Int32) (hst : st ≤ 4200) (hen : en ≤ 4200) : Met l yX1_key wsX1_key ({ frames := 1, cells := 0, slots := 0, locals := 30 } : Room) (va_Pc [.ref (bd 0), .int x] (pr_w dC dI cI cZ (w1 cI cZ bd (sg, st, en, du, th, yk, yv, yr, yt, yl, yb, yp, yg)) sz)) (va_Qi (fun (r : Int32) (u : C1) => ((x < nI st ∨ nI en ≤ x) ∧ u = (sg, st, en, du, 1, yk, yv, yr, yt, yl, yb, yp, yg)) ∨ (∃ q, x = nI q ∧ st ≤ q ∧ q < en ∧ ((yt q = 0 ∧ u = (sg, st, en, du, 2, yk, yv, yr, yt, yl, yb, yp, yg)) ∨ (¬ yt q = 0 ∧ ((yr q = 0 ∧ r = yk q + nI 0) ∨ (¬ yr q = 0 ∧ r = yk q + nI 16)) ∧ u = (sg, st, en, du, 0, yk, yv, yr, yt, yl, yb, yp, yg))))) (at1 dC dI cI cZ bd (va_A (w1 cI cZ bd (sg, st, en, du, th, yk, yv, yr, yt, yl, yb, yp, yg)) sz)) (va_A (w1 cI cZ bd (sg, st, en, du, th, yk, yv, yr, yt, yl, yb, yp, yg)) sz)) 0 0 (va_A (w1 cI cZ bd (sg, st, en, du, th, yk, yv, yr, yt, yl, yb, yp, yg)) sz) := by
  refine Met.ofW (cc := cX1_key) (maxL := 2) (ret := (some .int)) (by decide) rfl ?_
  intro p e s m args below meth c s₁ B hml hv
  obtain ⟨rfl, hsz, hP, hK, hD0⟩ := hv
  have hx := B.exec
  have hb := B.bytes
  have hr := B.returns
  have hts := atoms_spec (ws := wsX1_key) B.pre
  have hown : s.vm.findClass RX1 = some m.cls := findClass_of_methodNamed B.named
  have hlocks := B.notSynchronized
  have h00 : ∀ w ∈ wsX10, w.before _ s = true := fun w h => hts w (List.mem_cons_of_mem _ (List.mem_append_right _ h))
  have L1 := hts (.fieldLink RX1 39 "SegmentLogModel" "thrown" "I") (List.mem_of_getElem? (i := 1) rfl)
  have L2 := hts (.fieldLink RX1 9 "SegmentLogModel" "keys" "[I") (List.mem_of_getElem? (i := 2) rfl)
  have L3 := hts (.fieldLink RX1 16 "SegmentLogModel" "removal" "[Z") (List.mem_of_getElem? (i := 3) rfl)
  subst hsz
  have hD := hD0.self (sz := s.heap.size)
  generalize hAe : va_A (w1 cI cZ bd (sg, st, en, du, th, yk, yv, yr, yt, yl, yb, yp, yg)) s.heap.size = A at hD ⊢
  have hA : ∀ q : Nat, s.heap.size ≤ q → A q := fun q h => by rw [← hAe]; exact Or.inr h
  have hS : va_S A s.heap s.heap [] := va_S.rf
  have hP : va_P (dC, dI) vwCl (w1 cI cZ bd (sg, st, en, du, th, yk, yv, yr, yt, yl, yb, yp, yg)) s.heap := hP
  have hl := lv_entry ([.ref (bd 0), .int x]) (n := 2) (Nat.le_of_ble_eq_true rfl)
  rw [lg_entry_eq]
  generalize (lg_sl ([.ref (bd 0), .int x]) ++ List.replicate (2 - (lg_sl ([.ref (bd 0), .int x])).length) Slot.unset).toArray = ls at hl ⊢
  have hl : lv_has ls 2 [(0, .ref (bd 0)), (1, .int x)] := hl
  refine lv_aload_n hx hb dX1_key_0 rfl (lv_at hl 0 rfl) ?_
  refine lv_aload_n hx hb dX1_key_1 rfl (lv_at hl 0 rfl) ?_
  refine lv_iload_n hx hb dX1_key_2 rfl (lv_at hl 1 rfl) ?_
  refine vp_callSi (W.runV (As := [.int x]) (rest := [.ref (bd 0)]) ⟨hx, hb, hml, hown, hts⟩ (c1_look l dC dI cI cZ bd sg st en du th yk yv yr yt yl yb yp yg x hst hen) (cwV 1 hts gX1_key_X1_look rfl rfl rfl (by decide +kernel) ⟨Nat.le_of_ble_eq_true rfl, Nat.le_of_ble_eq_true rfl⟩) ⟨bl_r, va_recv hK hP (ci := 1) (q0 := 0) rfl rfl, fun U hU hW => ⟨rfl, by rw [hU]; exact hP, va_K.moved hW.alike hK⟩⟩ rfl rfl hl.1 rfl (lv_room (Nat.le_of_ble_eq_true rfl)) dX1_key_3 ⟨by decide, by decide⟩) (fun r1 hq => ?_)
  rcases hq with ⟨hq, rfl⟩ | ⟨q, hq0, rfl, hq1, hq2, hq | hq⟩
  · skip
    refine va_put (D := (dC, dI)) (ci := 1) (v := .int (nI 1)) (ty := .int) (C := RX1) (T := TX1) (N := 13) hx hb h00 (fun _ h => h) tyX1 tyX1_ok nmX1 hown hK hP hD hS 0 rfl rfl 10 (by decide) L1 (fun _ h9 => h9) rfl rfl rfl rfl (Nat.le_of_ble_eq_true rfl) dX1_key_6 (fun H locs hP hD hS => ?_)
    have hP : va_P (dC, dI) vwCl (w1 cI cZ bd (sg, st, en, du, 1, yk, yv, yr, yt, yl, yb, yp, yg)) H := hP
    have hD : va_D A (w1 cI cZ bd (sg, st, en, du, 1, yk, yv, yr, yt, yl, yb, yp, yg)) := hD
    refine lv_aload_n hx hb dX1_key_9 rfl (lv_at hl 0 rfl) ?_
    refine va_get (D := (dC, dI)) (ci := 1) (v := .int (nI 1)) (C := RX1) (T := TX1) (N := 13) hx hb h00 (fun _ h => h) hown hK hP 0 rfl rfl 10 (by decide) L1 (fun _ h9 => h9) rfl dX1_key_10 ?_
    refine lv_if_le (tgt := 20) hx hb dX1_key_13 (by decide) (fun c1 => ?_) (fun c1 => ?_)
    · skip
      exact absurd c1 (by decide)
    · skip
      refine lv_iconst (v := nI 0) hx hb dX1_key_16 (by decide) ?_
      refine lv_goto (tgt := 42) hx hb dX1_key_17 (by decide) ?_
      exact W.iret (v := nI 0) hx hb hr (fun t ht hW => ⟨⟨_, (sg, st, en, du, 1, yk, yv, yr, yt, yl, yb, yp, yg), rfl, Or.inl ⟨hq, rfl⟩, by rw [ht]; exact hP, va_K.moved hW.alike hK, hD⟩, hS.F ht⟩) hS.2.2 dX1_key_42
  · skip
    obtain ⟨hq3, rfl⟩ := hq
    refine va_put (D := (dC, dI)) (ci := 1) (v := .int (nI 0)) (ty := .int) (C := RX1) (T := TX1) (N := 13) hx hb h00 (fun _ h => h) tyX1 tyX1_ok nmX1 hown hK hP hD hS 0 rfl rfl 10 (by decide) L1 (fun _ h9 => h9) rfl rfl rfl rfl (Nat.le_of_ble_eq_true rfl) dX1_key_6 (fun H locs hP hD hS => ?_)
    have hP : va_P (dC, dI) vwCl (w1 cI cZ bd (sg, st, en, du, 0, yk, yv, yr, yt, yl, yb, yp, yg)) H := hP
    have hD : va_D A (w1 cI cZ bd (sg, st, en, du, 0, yk, yv, yr, yt, yl, yb, yp, yg)) := hD
    refine lv_aload_n hx hb dX1_key_9 rfl (lv_at hl 0 rfl) ?_
    refine va_get (D := (dC, dI)) (ci := 1) (v := .int (nI 0)) (C := RX1) (T := TX1) (N := 13) hx hb h00 (fun _ h => h) hown hK hP 0 rfl rfl 10 (by decide) L1 (fun _ h9 => h9) rfl dX1_key_10 ?_
    refine lv_if_le (tgt := 20) hx hb dX1_key_13 (by decide) (fun c1 => ?_) (fun c1 => ?_)
    · skip
      refine lv_aload_n hx hb dX1_key_20 rfl (lv_at hl 0 rfl) ?_
      refine va_get (D := (dC, dI)) (ci := 1) (v := .ref (bd 1)) (C := RX1) (T := TX1) (N := 13) hx hb h00 (fun _ h => h) hown hK hP 0 rfl rfl 0 (by decide) L2 (fun _ h9 => h9) rfl dX1_key_21 ?_
      refine lv_iload_n hx hb dX1_key_24 rfl (lv_at hl 1 rfl) ?_
      refine qa_iald (i := q) hx hb hK hP 1 0 rfl rfl (by omega) (by decide) dX1_key_25 ?_
      refine lv_aload_n hx hb dX1_key_26 rfl (lv_at hl 0 rfl) ?_
      refine va_get (D := (dC, dI)) (ci := 1) (v := .ref (bd 3)) (C := RX1) (T := TX1) (N := 13) hx hb h00 (fun _ h => h) hown hK hP 0 rfl rfl 2 (by decide) L3 (fun _ h9 => h9) rfl dX1_key_27 ?_
      refine lv_iload_n hx hb dX1_key_30 rfl (lv_at hl 1 rfl) ?_
      refine qa_zald (i := q) hx hb hK hP 3 1 rfl rfl (by omega) (by decide) dX1_key_31 ?_
      refine lv_if_eq (tgt := 40) hx hb dX1_key_32 (by decide) (fun c2 => ?_) (fun c2 => ?_)
      · skip
        refine lv_iconst (v := nI 0) hx hb dX1_key_40 (by decide) ?_
        refine lv_iadd hx hb dX1_key_41 ?_
        exact W.iret (v := yk q + nI 0) hx hb hr (fun t ht hW => ⟨⟨_, (sg, st, en, du, 0, yk, yv, yr, yt, yl, yb, yp, yg), rfl, Or.inr ⟨q, rfl, hq1, hq2, Or.inr ⟨hq3, Or.inl ⟨c2, rfl⟩, rfl⟩⟩, by rw [ht]; exact hP, va_K.moved hW.alike hK, hD⟩, hS.F ht⟩) hS.2.2 dX1_key_42
      · skip
        refine lv_bipush (v := nI 16) hx hb dX1_key_35 (by decide) ?_
        refine lv_goto (tgt := 41) hx hb dX1_key_37 (by decide) ?_
        refine lv_iadd hx hb dX1_key_41 ?_
        exact W.iret (v := yk q + nI 16) hx hb hr (fun t ht hW => ⟨⟨_, (sg, st, en, du, 0, yk, yv, yr, yt, yl, yb, yp, yg), rfl, Or.inr ⟨q, rfl, hq1, hq2, Or.inr ⟨hq3, Or.inr ⟨c2, rfl⟩, rfl⟩⟩, by rw [ht]; exact hP, va_K.moved hW.alike hK, hD⟩, hS.F ht⟩) hS.2.2 dX1_key_42
    · skip
      exact absurd (by decide) c1
  · skip
    obtain ⟨hq3, rfl⟩ := hq
    refine va_put (D := (dC, dI)) (ci := 1) (v := .int (nI 2)) (ty := .int) (C := RX1) (T := TX1) (N := 13) hx hb h00 (fun _ h => h) tyX1 tyX1_ok nmX1 hown hK hP hD hS 0 rfl rfl 10 (by decide) L1 (fun _ h9 => h9) rfl rfl rfl rfl (Nat.le_of_ble_eq_true rfl) dX1_key_6 (fun H locs hP hD hS => ?_)
    have hP : va_P (dC, dI) vwCl (w1 cI cZ bd (sg, st, en, du, 2, yk, yv, yr, yt, yl, yb, yp, yg)) H := hP
    have hD : va_D A (w1 cI cZ bd (sg, st, en, du, 2, yk, yv, yr, yt, yl, yb, yp, yg)) := hD
    refine lv_aload_n hx hb dX1_key_9 rfl (lv_at hl 0 rfl) ?_
    refine va_get (D := (dC, dI)) (ci := 1) (v := .int (nI 2)) (C := RX1) (T := TX1) (N := 13) hx hb h00 (fun _ h => h) hown hK hP 0 rfl rfl 10 (by decide) L1 (fun _ h9 => h9) rfl dX1_key_10 ?_
    refine lv_if_le (tgt := 20) hx hb dX1_key_13 (by decide) (fun c1 => ?_) (fun c1 => ?_)
    · skip
      exact absurd c1 (by decide)
    · skip
      refine lv_iconst (v := nI 0) hx hb dX1_key_16 (by decide) ?_
      refine lv_goto (tgt := 42) hx hb dX1_key_17 (by decide) ?_
      exact W.iret (v := nI 0) hx hb hr (fun t ht hW => ⟨⟨_, (sg, st, en, du, 2, yk, yv, yr, yt, yl, yb, yp, yg), rfl, Or.inr ⟨q, rfl, hq1, hq2, Or.inl ⟨hq3, rfl⟩⟩, by rw [ht]; exact hP, va_K.moved hW.alike hK, hD⟩, hS.F ht⟩) hS.2.2 dX1_key_42
set_option maxHeartbeats 4000000 in
set_option maxRecDepth 100000 in
theorem c1_poll (l : Launch) (dC : Nat → ClassId) (dI : Nat → Nat → Nat) (cI cZ : ClassId) (bd : Nat → Nat) (sz : Nat) (sg st en du th : Nat) (yk yv yr yt yl yb yp yg : Nat → Int32) (x : Int32) (hst : st ≤ 4200) (hen : en ≤ 4200) : Met l yX1_poll wsX1_poll ({ frames := 2, cells := 0, slots := 0, locals := 60 } : Room) (va_Pc [.ref (bd 0), .int x] (pr_w dC dI cI cZ (w1 cI cZ bd (sg, st, en, du, th, yk, yv, yr, yt, yl, yb, yp, yg)) sz)) (va_Qi (fun (r : Int32) (u : C1) => (∃ g, gp x g ∧ ((∃ k, st ≤ k ∧ k < en ∧ ¬ nI k < yp g ∧ ¬ yt k = 0 ∧ (∀ q, st ≤ q → q < k → ¬ nI q < yp g → yt q = 0) ∧ r = nI k ∧ u = (sg, st, en, du, th, yk, yv, yr, yt, yl, yb, upd yp g (nI (k + 1)), yg)) ∨ ((∀ q, st ≤ q → q < en → ¬ nI q < yp g → yt q = 0) ∧ r = -1 ∧ u = (sg, st, en, du, th, yk, yv, yr, yt, yl, yb, yp, yg)))) ∨ ((∀ g, ¬ gp x g) ∧ r = -1 ∧ u = (sg, st, en, du, th, yk, yv, yr, yt, yl, yb, yp, yg))) (at1 dC dI cI cZ bd (va_A (w1 cI cZ bd (sg, st, en, du, th, yk, yv, yr, yt, yl, yb, yp, yg)) sz)) (va_A (w1 cI cZ bd (sg, st, en, du, th, yk, yv, yr, yt, yl, yb, yp, yg)) sz)) 0 0 (va_A (w1 cI cZ bd (sg, st, en, du, th, yk, yv, yr, yt, yl, yb, yp, yg)) sz) := by
  refine Met.ofW (cc := cX1_poll) (maxL := 3) (ret := (some .int)) (by decide) rfl ?_
  intro p e s m args below meth c s₁ B hml hv
  obtain ⟨rfl, hsz, hP, hK, hD0⟩ := hv
  have hx := B.exec
  have hb := B.bytes
  have hr := B.returns
  have hts := atoms_spec (ws := wsX1_poll) B.pre
  have hown : s.vm.findClass RX1 = some m.cls := findClass_of_methodNamed B.named
  have hlocks := B.notSynchronized
  have h00 : ∀ w ∈ wsX10, w.before _ s = true := fun w h => hts w (List.mem_cons_of_mem _ (List.mem_append_right _ h))
  have L1 := hts (.fieldLink RX1 33 "SegmentLogModel" "positions" "[I") (List.mem_of_getElem? (i := 1) rfl)
  subst hsz
  have hD := hD0.self (sz := s.heap.size)
  generalize hAe : va_A (w1 cI cZ bd (sg, st, en, du, th, yk, yv, yr, yt, yl, yb, yp, yg)) s.heap.size = A at hD ⊢
  have hA : ∀ q : Nat, s.heap.size ≤ q → A q := fun q h => by rw [← hAe]; exact Or.inr h
  have hS : va_S A s.heap s.heap [] := va_S.rf
  have hP : va_P (dC, dI) vwCl (w1 cI cZ bd (sg, st, en, du, th, yk, yv, yr, yt, yl, yb, yp, yg)) s.heap := hP
  have hl := lv_entry ([.ref (bd 0), .int x]) (n := 3) (Nat.le_of_ble_eq_true rfl)
  rw [lg_entry_eq]
  generalize (lg_sl ([.ref (bd 0), .int x]) ++ List.replicate (3 - (lg_sl ([.ref (bd 0), .int x])).length) Slot.unset).toArray = ls at hl ⊢
  have hl : lv_has ls 3 [(0, .ref (bd 0)), (1, .int x)] := hl
  refine lv_iload_n hx hb dX1_poll_0 rfl (lv_at hl 1 rfl) ?_
  refine vp_callSi (W.runS (As := [.int x]) (rest := []) ⟨hx, hb, hml, hown, hts⟩ (c1_isGroup l dC dI cI cZ bd sg st en du th yk yv yr yt yl yb yp yg x ) (va_cwS 1 hts gX1_poll_X1_isGroup rfl rfl rfl (by decide +kernel) ⟨Nat.le_of_ble_eq_true rfl, Nat.le_of_ble_eq_true rfl⟩) ⟨fun _ _ _ _ q => q, fun U _ _ => ⟨rfl, trivial⟩⟩ rfl rfl hl.1 rfl (lv_room (Nat.le_of_ble_eq_true rfl)) dX1_poll_1 ⟨by decide, by decide⟩) (fun r1 hq => ?_)
  rcases hq with ⟨g, hg, rfl⟩ | ⟨hg, rfl⟩
  · skip
    refine lv_if_eq (tgt := 20) hx hb dX1_poll_4 (by decide) (fun c1 => ?_) (fun c1 => ?_)
    · skip
      exact absurd c1 (by decide)
    · skip
      obtain ⟨hg4, rfl⟩ := hg
      refine lv_aload_n hx hb dX1_poll_7 rfl (lv_at hl 0 rfl) ?_
      refine lv_aload_n hx hb dX1_poll_8 rfl (lv_at hl 0 rfl) ?_
      refine va_get (D := (dC, dI)) (ci := 1) (v := .ref (bd 7)) (C := RX1) (T := TX1) (N := 13) hx hb h00 (fun _ h => h) hown hK hP 0 rfl rfl 11 (by decide) L1 (fun _ h9 => h9) rfl dX1_poll_9 ?_
      refine lv_iload_n hx hb dX1_poll_12 rfl (lv_at hl 1 rfl) ?_
      refine qa_iald (i := g) hx hb hK hP 7 0 rfl rfl (by omega) (by decide) dX1_poll_13 ?_
      refine vp_callSi (W.runV (As := [.int (yp g)]) (rest := []) ⟨hx, hb, hml, hown, hts⟩ (c1_next l dC dI cI cZ bd sg st en du th yk yv yr yt yl yb yp yg (yp g) hst hen) (cwV 1 hts gX1_poll_X1_next rfl rfl rfl (by decide +kernel) ⟨Nat.le_of_ble_eq_true rfl, Nat.le_of_ble_eq_true rfl⟩) ⟨bl_r, va_recv hK hP (ci := 1) (q0 := 0) rfl rfl, fun U hU hW => ⟨rfl, by rw [hU]; exact hP, va_K.moved hW.alike hK⟩⟩ rfl rfl hl.1 rfl (lv_room (Nat.le_of_ble_eq_true rfl)) dX1_poll_14 ⟨by decide, by decide⟩) (fun r2 hq2 => ?_)
      rcases hq2 with ⟨k, k1, k2, k3, k4, k5, rfl⟩ | ⟨k5, rfl⟩
      · skip
        refine lv_goto (tgt := 21) hx hb dX1_poll_17 (by decide) ?_
        refine lv_istore_n (lv' := [(2, .int (nI k)), (0, .ref (bd 0)), (1, .int (nI g))]) hx hb dX1_poll_21 rfl hl (by decide) rfl (fun ls hl => ?_)
        refine lv_iload_n hx hb dX1_poll_22 rfl (lv_at hl 0 rfl) ?_
        refine lv_if_lt (tgt := 35) hx hb dX1_poll_23 (by decide) (fun c2 => ?_) (fun c2 => ?_)
        · skip
          exact absurd c2 (nI_pos (by omega))
        · skip
          refine lv_aload_n hx hb dX1_poll_26 rfl (lv_at hl 1 rfl) ?_
          refine va_get (D := (dC, dI)) (ci := 1) (v := .ref (bd 7)) (C := RX1) (T := TX1) (N := 13) hx hb h00 (fun _ h => h) hown hK hP 0 rfl rfl 11 (by decide) L1 (fun _ h9 => h9) rfl dX1_poll_27 ?_
          refine lv_iload_n hx hb dX1_poll_30 rfl (lv_at hl 2 rfl) ?_
          refine lv_iload_n hx hb dX1_poll_31 rfl (lv_at hl 0 rfl) ?_
          refine lv_iconst (v := nI 1) hx hb dX1_poll_32 (by decide) ?_
          refine lv_iadd hx hb dX1_poll_33 ?_
          refine qa_top (nI_add k 1) ?_
          refine qa_iast (i := g) hx hb hK hP hD hS 7 0 rfl rfl (by omega) (by decide) dX1_poll_34 (fun H locs hP hD hS => ?_)
          have hP : va_P (dC, dI) vwCl (w1 cI cZ bd (sg, st, en, du, th, yk, yv, yr, yt, yl, yb, (upd yp g (nI (k + 1))), yg)) H := hP
          have hD : va_D A (w1 cI cZ bd (sg, st, en, du, th, yk, yv, yr, yt, yl, yb, (upd yp g (nI (k + 1))), yg)) := hD
          refine lv_iload_n hx hb dX1_poll_35 rfl (lv_at hl 0 rfl) ?_
          exact W.iret (v := nI k) hx hb hr (fun t ht hW => ⟨⟨_, (sg, st, en, du, th, yk, yv, yr, yt, yl, yb, (upd yp g (nI (k + 1))), yg), rfl, Or.inl ⟨g, ⟨hg4, rfl⟩, Or.inl ⟨k, k1, k2, k3, k4, k5, rfl, rfl⟩⟩, by rw [ht]; exact hP, va_K.moved hW.alike hK, hD⟩, hS.F ht⟩) hS.2.2 dX1_poll_36
      · skip
        refine lv_goto (tgt := 21) hx hb dX1_poll_17 (by decide) ?_
        refine lv_istore_n (lv' := [(2, .int ((-1))), (0, .ref (bd 0)), (1, .int (nI g))]) hx hb dX1_poll_21 rfl hl (by decide) rfl (fun ls hl => ?_)
        refine lv_iload_n hx hb dX1_poll_22 rfl (lv_at hl 0 rfl) ?_
        refine lv_if_lt (tgt := 35) hx hb dX1_poll_23 (by decide) (fun c2 => ?_) (fun c2 => ?_)
        · skip
          refine lv_iload_n hx hb dX1_poll_35 rfl (lv_at hl 0 rfl) ?_
          exact W.iret (v := (-1)) hx hb hr (fun t ht hW => ⟨⟨_, (sg, st, en, du, th, yk, yv, yr, yt, yl, yb, yp, yg), rfl, Or.inl ⟨g, ⟨hg4, rfl⟩, Or.inr ⟨k5, rfl, rfl⟩⟩, by rw [ht]; exact hP, va_K.moved hW.alike hK, hD⟩, hS.F ht⟩) hS.2.2 dX1_poll_36
        · skip
          exact absurd (by decide) c2
  · skip
    refine lv_if_eq (tgt := 20) hx hb dX1_poll_4 (by decide) (fun c1 => ?_) (fun c1 => ?_)
    · skip
      refine lv_iconst (v := (-1)) hx hb dX1_poll_20 (by decide) ?_
      refine lv_istore_n (lv' := [(2, .int ((-1))), (0, .ref (bd 0)), (1, .int x)]) hx hb dX1_poll_21 rfl hl (by decide) rfl (fun ls hl => ?_)
      refine lv_iload_n hx hb dX1_poll_22 rfl (lv_at hl 0 rfl) ?_
      refine lv_if_lt (tgt := 35) hx hb dX1_poll_23 (by decide) (fun c2 => ?_) (fun c2 => ?_)
      · skip
        refine lv_iload_n hx hb dX1_poll_35 rfl (lv_at hl 0 rfl) ?_
        exact W.iret (v := (-1)) hx hb hr (fun t ht hW => ⟨⟨_, (sg, st, en, du, th, yk, yv, yr, yt, yl, yb, yp, yg), rfl, Or.inr ⟨hg, rfl, rfl⟩, by rw [ht]; exact hP, va_K.moved hW.alike hK, hD⟩, hS.F ht⟩) hS.2.2 dX1_poll_36
      · skip
        exact absurd (by decide) c2
    · skip
      exact absurd rfl c1
set_option maxHeartbeats 4000000 in
set_option maxRecDepth 100000 in
theorem c1_commit (l : Launch) (dC : Nat → ClassId) (dI : Nat → Nat → Nat) (cI cZ : ClassId) (bd : Nat → Nat) (sz : Nat) (sg st en du th : Nat) (yk yv yr yt yl yb yp yg : Nat → Int32) (x y : Int32)  : Met l yX1_commit wsX1_commit ({ frames := 1, cells := 0, slots := 0, locals := 30 } : Room) (va_Pc [.ref (bd 0), .int x, .int y] (pr_w dC dI cI cZ (w1 cI cZ bd (sg, st, en, du, th, yk, yv, yr, yt, yl, yb, yp, yg)) sz)) (va_Qi (fun (r : Int32) (u : C1) => (∃ g, gp x g ∧ ¬ y < nI st ∧ y ≤ nI en ∧ r = nI 1 ∧ u = (sg, st, en, du, th, yk, yv, yr, yt, yl, yb, upd yp g y, yg)) ∨ (((∀ g, ¬ gp x g) ∨ y < nI st ∨ ¬ y ≤ nI en) ∧ r = nI 0 ∧ u = (sg, st, en, du, th, yk, yv, yr, yt, yl, yb, yp, yg))) (at1 dC dI cI cZ bd (va_A (w1 cI cZ bd (sg, st, en, du, th, yk, yv, yr, yt, yl, yb, yp, yg)) sz)) (va_A (w1 cI cZ bd (sg, st, en, du, th, yk, yv, yr, yt, yl, yb, yp, yg)) sz)) 0 0 (va_A (w1 cI cZ bd (sg, st, en, du, th, yk, yv, yr, yt, yl, yb, yp, yg)) sz) := by
  refine Met.ofW (cc := cX1_commit) (maxL := 3) (ret := (some .boolean)) (by decide) rfl ?_
  intro p e s m args below meth c s₁ B hml hv
  obtain ⟨rfl, hsz, hP, hK, hD0⟩ := hv
  have hx := B.exec
  have hb := B.bytes
  have hr := B.returns
  have hts := atoms_spec (ws := wsX1_commit) B.pre
  have hown : s.vm.findClass RX1 = some m.cls := findClass_of_methodNamed B.named
  have hlocks := B.notSynchronized
  have h00 : ∀ w ∈ wsX10, w.before _ s = true := fun w h => hts w (List.mem_cons_of_mem _ (List.mem_append_right _ h))
  have L1 := hts (.fieldLink RX1 51 "SegmentLogModel" "start" "I") (List.mem_of_getElem? (i := 1) rfl)
  have L2 := hts (.fieldLink RX1 48 "SegmentLogModel" "end" "I") (List.mem_of_getElem? (i := 2) rfl)
  have L3 := hts (.fieldLink RX1 33 "SegmentLogModel" "positions" "[I") (List.mem_of_getElem? (i := 3) rfl)
  subst hsz
  have hD := hD0.self (sz := s.heap.size)
  generalize hAe : va_A (w1 cI cZ bd (sg, st, en, du, th, yk, yv, yr, yt, yl, yb, yp, yg)) s.heap.size = A at hD ⊢
  have hA : ∀ q : Nat, s.heap.size ≤ q → A q := fun q h => by rw [← hAe]; exact Or.inr h
  have hS : va_S A s.heap s.heap [] := va_S.rf
  have hP : va_P (dC, dI) vwCl (w1 cI cZ bd (sg, st, en, du, th, yk, yv, yr, yt, yl, yb, yp, yg)) s.heap := hP
  have hl := lv_entry ([.ref (bd 0), .int x, .int y]) (n := 3) (Nat.le_of_ble_eq_true rfl)
  rw [lg_entry_eq]
  generalize (lg_sl ([.ref (bd 0), .int x, .int y]) ++ List.replicate (3 - (lg_sl ([.ref (bd 0), .int x, .int y])).length) Slot.unset).toArray = ls at hl ⊢
  have hl : lv_has ls 3 [(0, .ref (bd 0)), (1, .int x), (2, .int y)] := hl
  refine lv_iload_n hx hb dX1_commit_0 rfl (lv_at hl 1 rfl) ?_
  refine vp_callSi (W.runS (As := [.int x]) (rest := []) ⟨hx, hb, hml, hown, hts⟩ (c1_isGroup l dC dI cI cZ bd sg st en du th yk yv yr yt yl yb yp yg x ) (va_cwS 1 hts gX1_commit_X1_isGroup rfl rfl rfl (by decide +kernel) ⟨Nat.le_of_ble_eq_true rfl, Nat.le_of_ble_eq_true rfl⟩) ⟨fun _ _ _ _ q => q, fun U _ _ => ⟨rfl, trivial⟩⟩ rfl rfl hl.1 rfl (lv_room (Nat.le_of_ble_eq_true rfl)) dX1_commit_1 ⟨by decide, by decide⟩) (fun r1 hq => ?_)
  rcases hq with ⟨g, hg, rfl⟩ | ⟨hg, rfl⟩
  · skip
    refine lv_if_eq (tgt := 23) hx hb dX1_commit_4 (by decide) (fun c1 => ?_) (fun c1 => ?_)
    · skip
      exact absurd c1 (by decide)
    · skip
      obtain ⟨hg4, rfl⟩ := hg
      refine lv_iload_n hx hb dX1_commit_7 rfl (lv_at hl 2 rfl) ?_
      refine lv_aload_n hx hb dX1_commit_8 rfl (lv_at hl 0 rfl) ?_
      refine va_get (D := (dC, dI)) (ci := 1) (v := .int (nI st)) (C := RX1) (T := TX1) (N := 13) hx hb h00 (fun _ h => h) hown hK hP 0 rfl rfl 7 (by decide) L1 (fun _ h9 => h9) rfl dX1_commit_9 ?_
      refine lv_icmp_lt (tgt := 23) hx hb dX1_commit_12 (by decide) (fun c2 => ?_) (fun c2 => ?_)
      · skip
        refine lv_iconst (v := nI 0) hx hb dX1_commit_23 (by decide) ?_
        exact W.zret (v := nI 0) hx hb hr (by decide) (fun t ht hW => ⟨⟨_, (sg, st, en, du, th, yk, yv, yr, yt, yl, yb, yp, yg), rfl, Or.inr ⟨Or.inr (Or.inl c2), rfl, rfl⟩, by rw [ht]; exact hP, va_K.moved hW.alike hK, hD⟩, hS.F ht⟩) hS.2.2 dX1_commit_24
      · skip
        refine lv_iload_n hx hb dX1_commit_15 rfl (lv_at hl 2 rfl) ?_
        refine lv_aload_n hx hb dX1_commit_16 rfl (lv_at hl 0 rfl) ?_
        refine va_get (D := (dC, dI)) (ci := 1) (v := .int (nI en)) (C := RX1) (T := TX1) (N := 13) hx hb h00 (fun _ h => h) hown hK hP 0 rfl rfl 8 (by decide) L2 (fun _ h9 => h9) rfl dX1_commit_17 ?_
        refine lv_icmp_le (tgt := 25) hx hb dX1_commit_20 (by decide) (fun c3 => ?_) (fun c3 => ?_)
        · skip
          refine lv_aload_n hx hb dX1_commit_25 rfl (lv_at hl 0 rfl) ?_
          refine va_get (D := (dC, dI)) (ci := 1) (v := .ref (bd 7)) (C := RX1) (T := TX1) (N := 13) hx hb h00 (fun _ h => h) hown hK hP 0 rfl rfl 11 (by decide) L3 (fun _ h9 => h9) rfl dX1_commit_26 ?_
          refine lv_iload_n hx hb dX1_commit_29 rfl (lv_at hl 1 rfl) ?_
          refine lv_iload_n hx hb dX1_commit_30 rfl (lv_at hl 2 rfl) ?_
          refine qa_iast (i := g) hx hb hK hP hD hS 7 0 rfl rfl (by omega) (by decide) dX1_commit_31 (fun H locs hP hD hS => ?_)
          have hP : va_P (dC, dI) vwCl (w1 cI cZ bd (sg, st, en, du, th, yk, yv, yr, yt, yl, yb, (upd yp g y), yg)) H := hP
          have hD : va_D A (w1 cI cZ bd (sg, st, en, du, th, yk, yv, yr, yt, yl, yb, (upd yp g y), yg)) := hD
          refine lv_iconst (v := nI 1) hx hb dX1_commit_32 (by decide) ?_
          exact W.zret (v := nI 1) hx hb hr (by decide) (fun t ht hW => ⟨⟨_, (sg, st, en, du, th, yk, yv, yr, yt, yl, yb, (upd yp g y), yg), rfl, Or.inl ⟨g, ⟨hg4, rfl⟩, c2, c3, rfl, rfl⟩, by rw [ht]; exact hP, va_K.moved hW.alike hK, hD⟩, hS.F ht⟩) hS.2.2 dX1_commit_33
        · skip
          refine lv_iconst (v := nI 0) hx hb dX1_commit_23 (by decide) ?_
          exact W.zret (v := nI 0) hx hb hr (by decide) (fun t ht hW => ⟨⟨_, (sg, st, en, du, th, yk, yv, yr, yt, yl, yb, yp, yg), rfl, Or.inr ⟨Or.inr (Or.inr c3), rfl, rfl⟩, by rw [ht]; exact hP, va_K.moved hW.alike hK, hD⟩, hS.F ht⟩) hS.2.2 dX1_commit_24
  · skip
    refine lv_if_eq (tgt := 23) hx hb dX1_commit_4 (by decide) (fun c1 => ?_) (fun c1 => ?_)
    · skip
      refine lv_iconst (v := nI 0) hx hb dX1_commit_23 (by decide) ?_
      exact W.zret (v := nI 0) hx hb hr (by decide) (fun t ht hW => ⟨⟨_, (sg, st, en, du, th, yk, yv, yr, yt, yl, yb, yp, yg), rfl, Or.inr ⟨Or.inl hg, rfl, rfl⟩, by rw [ht]; exact hP, va_K.moved hW.alike hK, hD⟩, hS.F ht⟩) hS.2.2 dX1_commit_24
    · skip
      exact absurd rfl c1
set_option maxHeartbeats 4000000 in
set_option maxRecDepth 100000 in
theorem c1_crash (l : Launch) (dC : Nat → ClassId) (dI : Nat → Nat → Nat) (cI cZ : ClassId) (bd : Nat → Nat) (sz : Nat) (sg st en du th : Nat) (yk yv yr yt yl yb yp yg : Nat → Int32) (hs : sg < 4199) (hde : du ≤ en) (hen : en ≤ 4200) : Met l yX1_crash wsX1_crash ({ frames := 2, cells := 0, slots := 0, locals := 60 } : Room) (va_Pc [.ref (bd 0)] (pr_w dC dI cI cZ (w1 cI cZ bd (sg, st, en, du, th, yk, yv, yr, yt, yl, yb, yp, yg)) sz)) (va_Qi (fun (r : Int32) (u : C1) => ∃ (k : Nat) (zt zq : Nat → Int32), r = nI (cn yt du en) ∧ zr yt zt du en ∧ k ≤ sg ∧ (∀ i, k ≤ i → i < sg → ¬ yb i < nI du) ∧ (0 < k → yb (k - 1) < nI du) ∧ mnp (nI du) yp zq 4 ∧ u = (k + 1, st, du, du, th, yk, yv, yr, zt, yl, upd yb k (nI du), zq, yg)) (at1 dC dI cI cZ bd (va_A (w1 cI cZ bd (sg, st, en, du, th, yk, yv, yr, yt, yl, yb, yp, yg)) sz)) (va_A (w1 cI cZ bd (sg, st, en, du, th, yk, yv, yr, yt, yl, yb, yp, yg)) sz)) 0 0 (va_A (w1 cI cZ bd (sg, st, en, du, th, yk, yv, yr, yt, yl, yb, yp, yg)) sz) := by
  refine Met.ofW (cc := cX1_crash) (maxL := 3) (ret := (some .int)) (by decide) rfl ?_
  intro p e s m args below meth c s₁ B hml hv
  obtain ⟨rfl, hsz, hP, hK, hD0⟩ := hv
  have hx := B.exec
  have hb := B.bytes
  have hr := B.returns
  have hts := atoms_spec (ws := wsX1_crash) B.pre
  have hown : s.vm.findClass RX1 = some m.cls := findClass_of_methodNamed B.named
  have hlocks := B.notSynchronized
  have h00 : ∀ w ∈ wsX10, w.before _ s = true := fun w h => hts w (List.mem_cons_of_mem _ (List.mem_append_right _ h))
  have L1 := hts (.fieldLink RX1 64 "SegmentLogModel" "durable" "I") (List.mem_of_getElem? (i := 1) rfl)
  have L2 := hts (.fieldLink RX1 48 "SegmentLogModel" "end" "I") (List.mem_of_getElem? (i := 2) rfl)
  have L3 := hts (.fieldLink RX1 20 "SegmentLogModel" "there" "[Z") (List.mem_of_getElem? (i := 3) rfl)
  have L4 := hts (.fieldLink RX1 29 "SegmentLogModel" "segments" "I") (List.mem_of_getElem? (i := 4) rfl)
  have L5 := hts (.fieldLink RX1 26 "SegmentLogModel" "bases" "[I") (List.mem_of_getElem? (i := 5) rfl)
  have L6 := hts (.fieldLink RX1 33 "SegmentLogModel" "positions" "[I") (List.mem_of_getElem? (i := 6) rfl)
  subst hsz
  have hD := hD0.self (sz := s.heap.size)
  generalize hAe : va_A (w1 cI cZ bd (sg, st, en, du, th, yk, yv, yr, yt, yl, yb, yp, yg)) s.heap.size = A at hD ⊢
  have hA : ∀ q : Nat, s.heap.size ≤ q → A q := fun q h => by rw [← hAe]; exact Or.inr h
  have hS : va_S A s.heap s.heap [] := va_S.rf
  have hP : va_P (dC, dI) vwCl (w1 cI cZ bd (sg, st, en, du, th, yk, yv, yr, yt, yl, yb, yp, yg)) s.heap := hP
  have hl := lv_entry ([.ref (bd 0)]) (n := 3) (Nat.le_of_ble_eq_true rfl)
  rw [lg_entry_eq]
  generalize (lg_sl ([.ref (bd 0)]) ++ List.replicate (3 - (lg_sl ([.ref (bd 0)])).length) Slot.unset).toArray = ls at hl ⊢
  have hl : lv_has ls 3 [(0, .ref (bd 0))] := hl
  refine lv_aload_n hx hb dX1_crash_0 rfl (lv_at hl 0 rfl) ?_
  refine lv_aload_n hx hb dX1_crash_1 rfl (lv_at hl 0 rfl) ?_
  refine va_get (D := (dC, dI)) (ci := 1) (v := .int (nI du)) (C := RX1) (T := TX1) (N := 13) hx hb h00 (fun _ h => h) hown hK hP 0 rfl rfl 9 (by decide) L1 (fun _ h9 => h9) rfl dX1_crash_2 ?_
  refine lv_aload_n hx hb dX1_crash_5 rfl (lv_at hl 0 rfl) ?_
  refine va_get (D := (dC, dI)) (ci := 1) (v := .int (nI en)) (C := RX1) (T := TX1) (N := 13) hx hb h00 (fun _ h => h) hown hK hP 0 rfl rfl 8 (by decide) L2 (fun _ h9 => h9) rfl dX1_crash_6 ?_
  refine vp_callSi (W.runV (As := [.int (nI du), .int (nI en)]) (rest := []) ⟨hx, hb, hml, hown, hts⟩ (c1_count l dC dI cI cZ bd sg st en du th yk yv yr yt yl yb yp yg du en (by omega) hen) (cwV 2 hts gX1_crash_X1_count rfl rfl rfl (by decide +kernel) ⟨Nat.le_of_ble_eq_true rfl, Nat.le_of_ble_eq_true rfl⟩) ⟨bl_r, va_recv hK hP (ci := 1) (q0 := 0) rfl rfl, fun U hU hW => ⟨rfl, by rw [hU]; exact hP, va_K.moved hW.alike hK⟩⟩ rfl rfl hl.1 rfl (lv_room (Nat.le_of_ble_eq_true rfl)) dX1_crash_9 ⟨by decide, by decide⟩) (fun r1 hq => ?_)
  subst hq
  refine lv_istore_n (lv' := [(1, .int (nI (cn yt du en))), (0, .ref (bd 0))]) hx hb dX1_crash_12 rfl hl (by decide) rfl (fun ls hl => ?_)
  refine lv_aload_n hx hb dX1_crash_13 rfl (lv_at hl 1 rfl) ?_
  refine va_get (D := (dC, dI)) (ci := 1) (v := .int (nI du)) (C := RX1) (T := TX1) (N := 13) hx hb h00 (fun _ h => h) hown hK hP 0 rfl rfl 9 (by decide) L1 (fun _ h9 => h9) rfl dX1_crash_14 ?_
  refine lv_istore_n (lv' := [(2, .int (nI du)), (1, .int (nI (cn yt du en))), (0, .ref (bd 0))]) hx hb dX1_crash_17 rfl hl (by decide) rfl (fun ls hl => ?_)
  have stageB : ∀ (zt : Nat → Int32) (H : Heap) (locs : List Loc) (ls : Array Slot), zr yt zt du en → va_P (dC, dI) vwCl (w1 cI cZ bd (sg, st, en, du, th, yk, yv, yr, zt, yl, yb, yp, yg)) H → va_D A (w1 cI cZ bd (sg, st, en, du, th, yk, yv, yr, zt, yl, yb, yp, yg)) → va_S A s.heap H locs → lv_has ls 3 [(1, .int (nI (cn yt du en))), (0, .ref (bd 0))] → W p l e (headSpec wsX1_crash ({ frames := 2, cells := 0, slots := 0, locals := 60 } : Room)).room s m ([.ref (bd 0)] : List Value).toArray below meth c H locs 0 0 (MQ below (va_Qi (fun (r : Int32) (u : C1) => ∃ (k : Nat) (zt zq : Nat → Int32), r = nI (cn yt du en) ∧ zr yt zt du en ∧ k ≤ sg ∧ (∀ i, k ≤ i → i < sg → ¬ yb i < nI du) ∧ (0 < k → yb (k - 1) < nI du) ∧ mnp (nI du) yp zq 4 ∧ u = (k + 1, st, du, du, th, yk, yv, yr, zt, yl, upd yb k (nI du), zq, yg)) (at1 dC dI cI cZ bd A) A) ([.ref (bd 0)] : List Value).toArray s 0 0 A) (F0 m 39 ls []) := by
    intro zt H locs ls hz hP hD hS hl
    refine lv_aload_n hx hb dX1_crash_39 rfl (lv_at hl 1 rfl) ?_
    refine lv_aload_n hx hb dX1_crash_40 rfl (lv_at hl 1 rfl) ?_
    refine va_get (D := (dC, dI)) (ci := 1) (v := .int (nI du)) (C := RX1) (T := TX1) (N := 13) hx hb h00 (fun _ h => h) hown hK hP 0 rfl rfl 9 (by decide) L1 (fun _ h9 => h9) rfl dX1_crash_41 ?_
    refine va_put (D := (dC, dI)) (ci := 1) (v := .int (nI du)) (ty := .int) (C := RX1) (T := TX1) (N := 13) hx hb h00 (fun _ h => h) tyX1 tyX1_ok nmX1 hown hK hP hD hS 0 rfl rfl 8 (by decide) L2 (fun _ h9 => h9) rfl rfl rfl rfl (Nat.le_of_ble_eq_true rfl) dX1_crash_44 (fun H locs hP hD hS => ?_)
    have hP : va_P (dC, dI) vwCl (w1 cI cZ bd (sg, st, du, du, th, yk, yv, yr, zt, yl, yb, yp, yg)) H := hP
    have hD : va_D A (w1 cI cZ bd (sg, st, du, du, th, yk, yv, yr, zt, yl, yb, yp, yg)) := hD
    have tail : ∀ (k : Nat) (H : Heap) (locs : List Loc) (ls : Array Slot), k ≤ sg → (∀ i, k ≤ i → i < sg → ¬ yb i < nI du) → (0 < k → yb (k - 1) < nI du) → va_P (dC, dI) vwCl (w1 cI cZ bd (k, st, du, du, th, yk, yv, yr, zt, yl, yb, yp, yg)) H → va_D A (w1 cI cZ bd (k, st, du, du, th, yk, yv, yr, zt, yl, yb, yp, yg)) → va_S A s.heap H locs → lv_has ls 3 [(1, .int (nI (cn yt du en))), (0, .ref (bd 0))] → W p l e (headSpec wsX1_crash ({ frames := 2, cells := 0, slots := 0, locals := 60 } : Room)).room s m ([.ref (bd 0)] : List Value).toArray below meth c H locs 0 0 (MQ below (va_Qi (fun (r : Int32) (u : C1) => ∃ (k : Nat) (zt zq : Nat → Int32), r = nI (cn yt du en) ∧ zr yt zt du en ∧ k ≤ sg ∧ (∀ i, k ≤ i → i < sg → ¬ yb i < nI du) ∧ (0 < k → yb (k - 1) < nI du) ∧ mnp (nI du) yp zq 4 ∧ u = (k + 1, st, du, du, th, yk, yv, yr, zt, yl, upd yb k (nI du), zq, yg)) (at1 dC dI cI cZ bd A) A) ([.ref (bd 0)] : List Value).toArray s 0 0 A) (F0 m 85 ls []) := by
      intro k H locs ls q1 q2 q3 hP hD hS hl
      refine lv_aload_n hx hb dX1_crash_85 rfl (lv_at hl 1 rfl) ?_
      have hFc := va_free (wc := w1 cI cZ bd (k, st, du, du, th, yk, yv, yr, zt, yl, yb, yp, yg)) hD hS hA [0, 1, 2, 3, 4, 5, 6, 7, 8] rfl
      refine va_callv (va_runV (As := []) (rest := []) ⟨hx, hb, hml, hown, hts⟩ (c1_rolled l dC dI cI cZ bd H.size k st du du th yk yv yr zt yl yb yp yg  (by omega)) (cwV 0 hts gX1_crash_X1_rolled rfl rfl rfl (by decide +kernel) ⟨Nat.le_of_ble_eq_true rfl, Nat.le_of_ble_eq_true rfl⟩) ⟨bl_w, va_recv hK hP (ci := 1) (q0 := 0) rfl rfl, fun U hU hW => ⟨rfl, by rw [hU], by rw [hU]; exact hP, va_K.moved hW.alike hK, hD.weaken (fun _ _ _ _ => trivial)⟩⟩ rfl rfl hl.1 rfl (lv_room (Nat.le_of_ble_eq_true rfl)) dX1_crash_86 ⟨by decide, by decide⟩) hS (fun q _ h => hFc q h) hFc (fun u t H1 locs ht hvm hq hB hz1 hk1 hS => ?_)
      have hu := hq
      subst hu
      obtain ⟨hP1, hK1, hD1⟩ := hB
      rw [ht] at hP1
      have hD1 := hD1.weaken (B := A) (fun k q _ h => hFc q.1 h)
      generalize H1 = H at hP1 hS ⊢
      have hP : va_P (dC, dI) vwCl (w1 cI cZ bd (k + 1, st, du, du, th, yk, yv, yr, zt, yl, (upd yb k (nI du)), yp, yg)) H := hP1
      have hD : va_D A (w1 cI cZ bd (k + 1, st, du, du, th, yk, yv, yr, zt, yl, (upd yb k (nI du)), yp, yg)) := hD1
      refine lv_iconst (v := nI 0) hx hb dX1_crash_89 (by decide) ?_
      refine lv_istore_n (lv' := [(2, .int (nI 0)), (1, .int (nI (cn yt du en))), (0, .ref (bd 0))]) hx hb dX1_crash_90 rfl hl (by decide) rfl (fun ls hl => ?_)
      have loop2 : ∀ (z i : Nat) (zq : Nat → Int32) (H : Heap) (locs : List Loc) (ls : Array Slot), 5 ≤ i + z → i ≤ 4 → mnp (nI du) yp zq i → va_P (dC, dI) vwCl (w1 cI cZ bd (k + 1, st, du, du, th, yk, yv, yr, zt, yl, (upd yb k (nI du)), zq, yg)) H → va_D A (w1 cI cZ bd (k + 1, st, du, du, th, yk, yv, yr, zt, yl, (upd yb k (nI du)), zq, yg)) → va_S A s.heap H locs → lv_has ls 3 [(2, .int (nI i)), (1, .int (nI (cn yt du en))), (0, .ref (bd 0))] → W p l e (headSpec wsX1_crash ({ frames := 2, cells := 0, slots := 0, locals := 60 } : Room)).room s m ([.ref (bd 0)] : List Value).toArray below meth c H locs 0 0 (MQ below (va_Qi (fun (r : Int32) (u : C1) => ∃ (k : Nat) (zt zq : Nat → Int32), r = nI (cn yt du en) ∧ zr yt zt du en ∧ k ≤ sg ∧ (∀ i, k ≤ i → i < sg → ¬ yb i < nI du) ∧ (0 < k → yb (k - 1) < nI du) ∧ mnp (nI du) yp zq 4 ∧ u = (k + 1, st, du, du, th, yk, yv, yr, zt, yl, upd yb k (nI du), zq, yg)) (at1 dC dI cI cZ bd A) A) ([.ref (bd 0)] : List Value).toArray s 0 0 A) (F0 m 91 ls []) := by
        intro z
        induction z with
        | zero => intro i zq H locs ls h1 h2; omega
        | succ z ih =>
          intro i zq H locs ls p1 p2 p3 hP hD hS hl
          refine lv_iload_n hx hb dX1_crash_91 rfl (lv_at hl 0 rfl) ?_
          refine lv_iconst (v := nI 4) hx hb dX1_crash_92 (by decide) ?_
          refine lv_icmp_ge (tgt := 121) hx hb dX1_crash_93 (by decide) (fun c1 => ?_) (fun c1 => ?_)
          · skip
            have hi := q_le (by omega) (by omega) c1
            have hi : i = 4 := by omega
            subst hi
            refine lv_iload_n hx hb dX1_crash_121 rfl (lv_at hl 1 rfl) ?_
            exact W.iret (v := nI (cn yt du en)) hx hb hr (fun t ht hW => ⟨⟨_, (k + 1, st, du, du, th, yk, yv, yr, zt, yl, (upd yb k (nI du)), zq, yg), rfl, ⟨k, zt, zq, rfl, hz, q1, q2, q3, p3, rfl⟩, by rw [ht]; exact hP, va_K.moved hW.alike hK, hD⟩, hS.F ht⟩) hS.2.2 dX1_crash_122
          · skip
            have hi : i < 4 := q_nle (by omega) (by omega) c1
            refine lv_aload_n hx hb dX1_crash_96 rfl (lv_at hl 2 rfl) ?_
            refine va_get (D := (dC, dI)) (ci := 1) (v := .ref (bd 7)) (C := RX1) (T := TX1) (N := 13) hx hb h00 (fun _ h => h) hown hK hP 0 rfl rfl 11 (by decide) L6 (fun _ h9 => h9) rfl dX1_crash_97 ?_
            refine lv_iload_n hx hb dX1_crash_100 rfl (lv_at hl 0 rfl) ?_
            refine lv_aload_n hx hb dX1_crash_101 rfl (lv_at hl 2 rfl) ?_
            refine va_get (D := (dC, dI)) (ci := 1) (v := .ref (bd 7)) (C := RX1) (T := TX1) (N := 13) hx hb h00 (fun _ h => h) hown hK hP 0 rfl rfl 11 (by decide) L6 (fun _ h9 => h9) rfl dX1_crash_102 ?_
            refine lv_iload_n hx hb dX1_crash_105 rfl (lv_at hl 0 rfl) ?_
            refine qa_iald (i := i) hx hb hK hP 7 0 rfl rfl (by omega) (by decide) dX1_crash_106 ?_
            refine lv_aload_n hx hb dX1_crash_107 rfl (lv_at hl 2 rfl) ?_
            refine va_get (D := (dC, dI)) (ci := 1) (v := .int (nI du)) (C := RX1) (T := TX1) (N := 13) hx hb h00 (fun _ h => h) hown hK hP 0 rfl rfl 8 (by decide) L2 (fun _ h9 => h9) rfl dX1_crash_108 ?_
            refine va_mmin hx hb (hml.trans hl.1.symm) hown (hts (.methodLink RX1 67 Lib.Math.min.name) (List.mem_of_getElem? (i := 7) rfl)) (hts (.static Lib.Math.min.name) (List.mem_of_getElem? (i := 8) rfl)) (hts (.initialized "java/lang/Math") (List.mem_of_getElem? (i := 9) rfl)) (hts (.code Lib.Math.min.name Lib.Math.min.code 2 (some .int)) (List.mem_of_getElem? (i := 10) rfl)) (by decide) (Nat.le_of_ble_eq_true rfl) (Nat.zero_le _) (Nat.zero_le _) dX1_crash_111 ?_
            refine qa_iast (i := i) hx hb hK hP hD hS 7 0 rfl rfl (by omega) (by decide) dX1_crash_114 (fun H locs hP hD hS => ?_)
            have hP : va_P (dC, dI) vwCl (w1 cI cZ bd (k + 1, st, du, du, th, yk, yv, yr, zt, yl, (upd yb k (nI du)), (upd zq i (if (nI du) < (zq i) then (nI du) else (zq i))), yg)) H := hP
            have hD : va_D A (w1 cI cZ bd (k + 1, st, du, du, th, yk, yv, yr, zt, yl, (upd yb k (nI du)), (upd zq i (if (nI du) < (zq i) then (nI du) else (zq i))), yg)) := hD
            refine lv_iinc (v := nI (i + 1)) (lv' := [(2, .int (nI (i + 1))), (1, .int (nI (cn yt du en))), (0, .ref (bd 0))]) hx hb dX1_crash_115 hl (k := 0) rfl (qa_inc1 i) (by decide) rfl (fun ls hl => ?_)
            refine lv_goto (tgt := 91) hx hb dX1_crash_118 (by decide) ?_
            exact ih (i + 1) _ _ _ ls (by omega) (by omega) (mnp_s p3) hP hD hS (lv_sub hl [0, 1, 2] rfl)
      exact loop2 5 0 yp _ _ ls (by omega) (by omega) mnp_0 hP hD hS (lv_sub hl [0, 1, 2] rfl)
    have loop : ∀ (k : Nat) (H : Heap) (locs : List Loc) (ls : Array Slot), k ≤ sg → (∀ i, k ≤ i → i < sg → ¬ yb i < nI du) → va_P (dC, dI) vwCl (w1 cI cZ bd (k, st, du, du, th, yk, yv, yr, zt, yl, yb, yp, yg)) H → va_D A (w1 cI cZ bd (k, st, du, du, th, yk, yv, yr, zt, yl, yb, yp, yg)) → va_S A s.heap H locs → lv_has ls 3 [(1, .int (nI (cn yt du en))), (0, .ref (bd 0))] → W p l e (headSpec wsX1_crash ({ frames := 2, cells := 0, slots := 0, locals := 60 } : Room)).room s m ([.ref (bd 0)] : List Value).toArray below meth c H locs 0 0 (MQ below (va_Qi (fun (r : Int32) (u : C1) => ∃ (k : Nat) (zt zq : Nat → Int32), r = nI (cn yt du en) ∧ zr yt zt du en ∧ k ≤ sg ∧ (∀ i, k ≤ i → i < sg → ¬ yb i < nI du) ∧ (0 < k → yb (k - 1) < nI du) ∧ mnp (nI du) yp zq 4 ∧ u = (k + 1, st, du, du, th, yk, yv, yr, zt, yl, upd yb k (nI du), zq, yg)) (at1 dC dI cI cZ bd A) A) ([.ref (bd 0)] : List Value).toArray s 0 0 A) (F0 m 47 ls []) := by
      intro k
      induction k with
      | zero =>
        intro H locs ls q1 q2 hP hD hS hl
        refine lv_aload_n hx hb dX1_crash_47 rfl (lv_at hl 1 rfl) ?_
        refine va_get (D := (dC, dI)) (ci := 1) (v := .int (nI 0)) (C := RX1) (T := TX1) (N := 13) hx hb h00 (fun _ h => h) hown hK hP 0 rfl rfl 6 (by decide) L4 (fun _ h9 => h9) rfl dX1_crash_48 ?_
        refine lv_if_le (tgt := 85) hx hb dX1_crash_51 (by decide) (fun c1 => ?_) (fun c1 => ?_)
        · skip
          exact tail 0 H locs ls q1 q2 (fun h => absurd h (Nat.lt_irrefl 0)) hP hD hS hl
        · skip
          exact absurd (by decide) c1
      | succ k ih =>
        intro H locs ls q1 q2 hP hD hS hl
        refine lv_aload_n hx hb dX1_crash_47 rfl (lv_at hl 1 rfl) ?_
        refine va_get (D := (dC, dI)) (ci := 1) (v := .int (nI (k + 1))) (C := RX1) (T := TX1) (N := 13) hx hb h00 (fun _ h => h) hown hK hP 0 rfl rfl 6 (by decide) L4 (fun _ h9 => h9) rfl dX1_crash_48 ?_
        refine lv_if_le (tgt := 85) hx hb dX1_crash_51 (by decide) (fun c1 => ?_) (fun c1 => ?_)
        · skip
          exact absurd c1 (nI_nle (by omega) (by omega))
        · skip
          refine lv_aload_n hx hb dX1_crash_54 rfl (lv_at hl 1 rfl) ?_
          refine va_get (D := (dC, dI)) (ci := 1) (v := .ref (bd 6)) (C := RX1) (T := TX1) (N := 13) hx hb h00 (fun _ h => h) hown hK hP 0 rfl rfl 5 (by decide) L5 (fun _ h9 => h9) rfl dX1_crash_55 ?_
          refine lv_aload_n hx hb dX1_crash_58 rfl (lv_at hl 1 rfl) ?_
          refine va_get (D := (dC, dI)) (ci := 1) (v := .int (nI (k + 1))) (C := RX1) (T := TX1) (N := 13) hx hb h00 (fun _ h => h) hown hK hP 0 rfl rfl 6 (by decide) L4 (fun _ h9 => h9) rfl dX1_crash_59 ?_
          refine lv_iconst (v := nI 1) hx hb dX1_crash_62 (by decide) ?_
          refine lv_isub hx hb dX1_crash_63 ?_
          refine qa_top (nI_pred' k) ?_
          refine qa_iald (i := k) hx hb hK hP 6 0 rfl rfl (by omega) (by decide) dX1_crash_64 ?_
          refine lv_aload_n hx hb dX1_crash_65 rfl (lv_at hl 1 rfl) ?_
          refine va_get (D := (dC, dI)) (ci := 1) (v := .int (nI du)) (C := RX1) (T := TX1) (N := 13) hx hb h00 (fun _ h => h) hown hK hP 0 rfl rfl 8 (by decide) L2 (fun _ h9 => h9) rfl dX1_crash_66 ?_
          refine lv_icmp_lt (tgt := 85) hx hb dX1_crash_69 (by decide) (fun c2 => ?_) (fun c2 => ?_)
          · skip
            exact tail (k + 1) H locs ls q1 q2 (fun _ => c2) hP hD hS hl
          · skip
            refine lv_aload_n hx hb dX1_crash_72 rfl (lv_at hl 1 rfl) ?_
            refine lv_aload_n hx hb dX1_crash_73 rfl (lv_at hl 1 rfl) ?_
            refine va_get (D := (dC, dI)) (ci := 1) (v := .int (nI (k + 1))) (C := RX1) (T := TX1) (N := 13) hx hb h00 (fun _ h => h) hown hK hP 0 rfl rfl 6 (by decide) L4 (fun _ h9 => h9) rfl dX1_crash_74 ?_
            refine lv_iconst (v := nI 1) hx hb dX1_crash_77 (by decide) ?_
            refine lv_isub hx hb dX1_crash_78 ?_
            refine qa_top (nI_pred' k) ?_
            refine va_put (D := (dC, dI)) (ci := 1) (v := .int (nI k)) (ty := .int) (C := RX1) (T := TX1) (N := 13) hx hb h00 (fun _ h => h) tyX1 tyX1_ok nmX1 hown hK hP hD hS 0 rfl rfl 6 (by decide) L4 (fun _ h9 => h9) rfl rfl rfl rfl (Nat.le_of_ble_eq_true rfl) dX1_crash_79 (fun H locs hP hD hS => ?_)
            have hP : va_P (dC, dI) vwCl (w1 cI cZ bd (k, st, du, du, th, yk, yv, yr, zt, yl, yb, yp, yg)) H := hP
            have hD : va_D A (w1 cI cZ bd (k, st, du, du, th, yk, yv, yr, zt, yl, yb, yp, yg)) := hD
            refine lv_goto (tgt := 47) hx hb dX1_crash_82 (by decide) ?_
            refine ih _ _ ls (by omega) (fun i p1 p2 => ?_) hP hD hS hl
            rcases Nat.lt_or_ge k i with h | h
            · exact q2 i h p2
            · have : i = k := by omega
              subst this; exact c2
    exact loop sg _ _ ls (Nat.le_refl sg) (fun i p1 p2 => by omega) hP hD hS (lv_sub hl [0, 1] rfl)
  have loopA : ∀ (z i : Nat) (zt : Nat → Int32) (H : Heap) (locs : List Loc) (ls : Array Slot), en + 1 ≤ i + z → du ≤ i → i ≤ en → zr yt zt du i → va_P (dC, dI) vwCl (w1 cI cZ bd (sg, st, en, du, th, yk, yv, yr, zt, yl, yb, yp, yg)) H → va_D A (w1 cI cZ bd (sg, st, en, du, th, yk, yv, yr, zt, yl, yb, yp, yg)) → va_S A s.heap H locs → lv_has ls 3 [(2, .int (nI i)), (1, .int (nI (cn yt du en))), (0, .ref (bd 0))] → W p l e (headSpec wsX1_crash ({ frames := 2, cells := 0, slots := 0, locals := 60 } : Room)).room s m ([.ref (bd 0)] : List Value).toArray below meth c H locs 0 0 (MQ below (va_Qi (fun (r : Int32) (u : C1) => ∃ (k : Nat) (zt zq : Nat → Int32), r = nI (cn yt du en) ∧ zr yt zt du en ∧ k ≤ sg ∧ (∀ i, k ≤ i → i < sg → ¬ yb i < nI du) ∧ (0 < k → yb (k - 1) < nI du) ∧ mnp (nI du) yp zq 4 ∧ u = (k + 1, st, du, du, th, yk, yv, yr, zt, yl, upd yb k (nI du), zq, yg)) (at1 dC dI cI cZ bd A) A) ([.ref (bd 0)] : List Value).toArray s 0 0 A) (F0 m 18 ls []) := by
    intro z
    induction z with
    | zero => intro i zt H locs ls h1 h2 h3; omega
    | succ z ih =>
      intro i zt H locs ls p1 p2 p3 p4 hP hD hS hl
      refine lv_iload_n hx hb dX1_crash_18 rfl (lv_at hl 0 rfl) ?_
      refine lv_aload_n hx hb dX1_crash_19 rfl (lv_at hl 2 rfl) ?_
      refine va_get (D := (dC, dI)) (ci := 1) (v := .int (nI en)) (C := RX1) (T := TX1) (N := 13) hx hb h00 (fun _ h => h) hown hK hP 0 rfl rfl 8 (by decide) L2 (fun _ h9 => h9) rfl dX1_crash_20 ?_
      refine lv_icmp_ge (tgt := 39) hx hb dX1_crash_23 (by decide) (fun c1 => ?_) (fun c1 => ?_)
      · skip
        have hi := q_le (by omega) (by omega) c1
        have hi : i = en := by omega
        subst hi
        exact stageB zt H locs ls p4 hP hD hS (lv_sub hl [1, 2] rfl)
      · skip
        have hi := q_nle (by omega) (by omega) c1
        refine lv_aload_n hx hb dX1_crash_26 rfl (lv_at hl 2 rfl) ?_
        refine va_get (D := (dC, dI)) (ci := 1) (v := .ref (bd 4)) (C := RX1) (T := TX1) (N := 13) hx hb h00 (fun _ h => h) hown hK hP 0 rfl rfl 3 (by decide) L3 (fun _ h9 => h9) rfl dX1_crash_27 ?_
        refine lv_iload_n hx hb dX1_crash_30 rfl (lv_at hl 0 rfl) ?_
        refine lv_iconst (v := nI 0) hx hb dX1_crash_31 (by decide) ?_
        refine qa_zast (i := i) hx hb hK hP hD hS 4 1 rfl rfl (by omega) (by decide) (by decide) dX1_crash_32 (fun H locs hP hD hS => ?_)
        have hP : va_P (dC, dI) vwCl (w1 cI cZ bd (sg, st, en, du, th, yk, yv, yr, (upd zt i (nI 0)), yl, yb, yp, yg)) H := hP
        have hD : va_D A (w1 cI cZ bd (sg, st, en, du, th, yk, yv, yr, (upd zt i (nI 0)), yl, yb, yp, yg)) := hD
        refine lv_iinc (v := nI (i + 1)) (lv' := [(2, .int (nI (i + 1))), (1, .int (nI (cn yt du en))), (0, .ref (bd 0))]) hx hb dX1_crash_33 hl (k := 0) rfl (qa_inc1 i) (by decide) rfl (fun ls hl => ?_)
        refine lv_goto (tgt := 18) hx hb dX1_crash_36 (by decide) ?_
        exact ih (i + 1) _ _ _ ls (by omega) (by omega) (by omega) (zr_s p4 p2) hP hD hS (lv_sub hl [0, 1, 2] rfl)
  exact loopA (en + 1) du yt _ _ ls (by omega) (Nat.le_refl du) hde zr_0 hP hD hS (lv_sub hl [0, 1, 2] rfl)
