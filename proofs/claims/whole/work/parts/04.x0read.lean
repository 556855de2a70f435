/-- the place of the first record at x or above -/
def ix (f : Nat → Int32) (n : Nat) (x : Int32) (j : Nat) : Prop := j ≤ n ∧ (∀ i, i < j → f i < x) ∧ (j < n → ¬ f j < x)
/-- an int that is a group's number -/
def gp (x : Int32) (g : Nat) : Prop := g < 4 ∧ x = nI g
theorem gp_no {x : Int32} (h : x < 0 ∨ nI 4 ≤ x) : ∀ g, ¬ gp x g := fun g hg => by
  obtain ⟨h1, rfl⟩ := hg
  rcases h with h | h
  · exact nI_pos (by omega) h
  · have := (nI_leI (by omega) (by omega)).mp h
    omega
theorem pk_ge0 {x : Int32} (h : ¬ x < 0) : ∃ j : Nat, j < 2 ^ 31 ∧ x = nI j := nI_of h
set_option maxHeartbeats 4000000 in
set_option maxRecDepth 100000 in
theorem c0_segments (l : Launch) (dC : Nat → ClassId) (dI : Nat → Nat → Nat) (cI cZ : ClassId) (ad : Nat → Nat) (n sc st en du : Nat) (fo fk fv fr fc fb fp ft : Nat → Int32)  : Met l yX0_segments wsX0_segments ({ frames := 0, cells := 0, slots := 0, locals := 0 } : Room) (va_Pc [.ref (ad 0)] (pr_r dC dI cI cZ (w0 cI cZ ad (n, sc, st, en, du, fo, fk, fv, fr, fc, fb, fp, ft)))) (vp_Si (fun r : Int32 => r = nI sc)) 0 0 (fun _ => False) := by
  refine Met.ofW (cc := cX0_segments) (maxL := 1) (ret := (some .int)) (by decide) rfl ?_
  intro p e s m args below meth c s₁ B hml hv
  obtain ⟨rfl, hP, hK⟩ := hv
  have hx := B.exec
  have hb := B.bytes
  have hr := B.returns
  have hts := atoms_spec (ws := wsX0_segments) B.pre
  have hown : s.vm.findClass RX0 = some m.cls := findClass_of_methodNamed B.named
  have hlocks := B.notSynchronized
  have h00 : ∀ w ∈ wsX00, w.before _ s = true := fun w h => hts w (List.mem_cons_of_mem _ (List.mem_append_right _ h))
  have L1 := hts (.fieldLink RX0 33 "SegmentLog" "segmentCount" "I") (List.mem_of_getElem? (i := 1) rfl)
  have hl := lv_entry ([.ref (ad 0)]) (n := 1) (Nat.le_of_ble_eq_true rfl)
  rw [lg_entry_eq]
  generalize (lg_sl ([.ref (ad 0)]) ++ List.replicate (1 - (lg_sl ([.ref (ad 0)])).length) Slot.unset).toArray = ls at hl ⊢
  have hl : lv_has ls 1 [(0, .ref (ad 0))] := hl
  refine lv_aload_n hx hb dX0_segments_0 rfl (lv_at hl 0 rfl) ?_
  refine va_get (D := (dC, dI)) (ci := 0) (v := .int (nI sc)) (C := RX0) (T := TX0) (N := 13) hx hb h00 (fun _ h => h) hown hK hP 0 rfl rfl 7 (by decide) L1 (fun _ h9 => h9) rfl dX0_segments_1 ?_
  exact W.iret (v := nI sc) hx hb hr (fun t ht hW => ⟨_, rfl, rfl, ht⟩) (fun _ h => by cases h) dX0_segments_4
set_option maxHeartbeats 4000000 in
set_option maxRecDepth 100000 in
theorem c0_start (l : Launch) (dC : Nat → ClassId) (dI : Nat → Nat → Nat) (cI cZ : ClassId) (ad : Nat → Nat) (n sc st en du : Nat) (fo fk fv fr fc fb fp ft : Nat → Int32)  : Met l yX0_start wsX0_start ({ frames := 0, cells := 0, slots := 0, locals := 0 } : Room) (va_Pc [.ref (ad 0)] (pr_r dC dI cI cZ (w0 cI cZ ad (n, sc, st, en, du, fo, fk, fv, fr, fc, fb, fp, ft)))) (vp_Si (fun r : Int32 => r = nI st)) 0 0 (fun _ => False) := by
  refine Met.ofW (cc := cX0_start) (maxL := 1) (ret := (some .int)) (by decide) rfl ?_
  intro p e s m args below meth c s₁ B hml hv
  obtain ⟨rfl, hP, hK⟩ := hv
  have hx := B.exec
  have hb := B.bytes
  have hr := B.returns
  have hts := atoms_spec (ws := wsX0_start) B.pre
  have hown : s.vm.findClass RX0 = some m.cls := findClass_of_methodNamed B.named
  have hlocks := B.notSynchronized
  have h00 : ∀ w ∈ wsX00, w.before _ s = true := fun w h => hts w (List.mem_cons_of_mem _ (List.mem_append_right _ h))
  have L1 := hts (.fieldLink RX0 42 "SegmentLog" "startOffset" "I") (List.mem_of_getElem? (i := 1) rfl)
  have hl := lv_entry ([.ref (ad 0)]) (n := 1) (Nat.le_of_ble_eq_true rfl)
  rw [lg_entry_eq]
  generalize (lg_sl ([.ref (ad 0)]) ++ List.replicate (1 - (lg_sl ([.ref (ad 0)])).length) Slot.unset).toArray = ls at hl ⊢
  have hl : lv_has ls 1 [(0, .ref (ad 0))] := hl
  refine lv_aload_n hx hb dX0_start_0 rfl (lv_at hl 0 rfl) ?_
  refine va_get (D := (dC, dI)) (ci := 0) (v := .int (nI st)) (C := RX0) (T := TX0) (N := 13) hx hb h00 (fun _ h => h) hown hK hP 0 rfl rfl 10 (by decide) L1 (fun _ h9 => h9) rfl dX0_start_1 ?_
  exact W.iret (v := nI st) hx hb hr (fun t ht hW => ⟨_, rfl, rfl, ht⟩) (fun _ h => by cases h) dX0_start_4
set_option maxHeartbeats 4000000 in
set_option maxRecDepth 100000 in
theorem c0_end (l : Launch) (dC : Nat → ClassId) (dI : Nat → Nat → Nat) (cI cZ : ClassId) (ad : Nat → Nat) (n sc st en du : Nat) (fo fk fv fr fc fb fp ft : Nat → Int32)  : Met l yX0_end wsX0_end ({ frames := 0, cells := 0, slots := 0, locals := 0 } : Room) (va_Pc [.ref (ad 0)] (pr_r dC dI cI cZ (w0 cI cZ ad (n, sc, st, en, du, fo, fk, fv, fr, fc, fb, fp, ft)))) (vp_Si (fun r : Int32 => r = nI en)) 0 0 (fun _ => False) := by
  refine Met.ofW (cc := cX0_end) (maxL := 1) (ret := (some .int)) (by decide) rfl ?_
  intro p e s m args below meth c s₁ B hml hv
  obtain ⟨rfl, hP, hK⟩ := hv
  have hx := B.exec
  have hb := B.bytes
  have hr := B.returns
  have hts := atoms_spec (ws := wsX0_end) B.pre
  have hown : s.vm.findClass RX0 = some m.cls := findClass_of_methodNamed B.named
  have hlocks := B.notSynchronized
  have h00 : ∀ w ∈ wsX00, w.before _ s = true := fun w h => hts w (List.mem_cons_of_mem _ (List.mem_append_right _ h))
  have L1 := hts (.fieldLink RX0 45 "SegmentLog" "endOffset" "I") (List.mem_of_getElem? (i := 1) rfl)
  have hl := lv_entry ([.ref (ad 0)]) (n := 1) (Nat.le_of_ble_eq_true rfl)
  rw [lg_entry_eq]
  generalize (lg_sl ([.ref (ad 0)]) ++ List.replicate (1 - (lg_sl ([.ref (ad 0)])).length) Slot.unset).toArray = ls at hl ⊢
  have hl : lv_has ls 1 [(0, .ref (ad 0))] := hl
  refine lv_aload_n hx hb dX0_end_0 rfl (lv_at hl 0 rfl) ?_
  refine va_get (D := (dC, dI)) (ci := 0) (v := .int (nI en)) (C := RX0) (T := TX0) (N := 13) hx hb h00 (fun _ h => h) hown hK hP 0 rfl rfl 11 (by decide) L1 (fun _ h9 => h9) rfl dX0_end_1 ?_
  exact W.iret (v := nI en) hx hb hr (fun t ht hW => ⟨_, rfl, rfl, ht⟩) (fun _ h => by cases h) dX0_end_4
set_option maxHeartbeats 4000000 in
set_option maxRecDepth 100000 in
theorem c0_durable (l : Launch) (dC : Nat → ClassId) (dI : Nat → Nat → Nat) (cI cZ : ClassId) (ad : Nat → Nat) (n sc st en du : Nat) (fo fk fv fr fc fb fp ft : Nat → Int32)  : Met l yX0_durable wsX0_durable ({ frames := 0, cells := 0, slots := 0, locals := 0 } : Room) (va_Pc [.ref (ad 0)] (pr_r dC dI cI cZ (w0 cI cZ ad (n, sc, st, en, du, fo, fk, fv, fr, fc, fb, fp, ft)))) (vp_Si (fun r : Int32 => r = nI du)) 0 0 (fun _ => False) := by
  refine Met.ofW (cc := cX0_durable) (maxL := 1) (ret := (some .int)) (by decide) rfl ?_
  intro p e s m args below meth c s₁ B hml hv
  obtain ⟨rfl, hP, hK⟩ := hv
  have hx := B.exec
  have hb := B.bytes
  have hr := B.returns
  have hts := atoms_spec (ws := wsX0_durable) B.pre
  have hown : s.vm.findClass RX0 = some m.cls := findClass_of_methodNamed B.named
  have hlocks := B.notSynchronized
  have h00 : ∀ w ∈ wsX00, w.before _ s = true := fun w h => hts w (List.mem_cons_of_mem _ (List.mem_append_right _ h))
  have L1 := hts (.fieldLink RX0 48 "SegmentLog" "durableOffset" "I") (List.mem_of_getElem? (i := 1) rfl)
  have hl := lv_entry ([.ref (ad 0)]) (n := 1) (Nat.le_of_ble_eq_true rfl)
  rw [lg_entry_eq]
  generalize (lg_sl ([.ref (ad 0)]) ++ List.replicate (1 - (lg_sl ([.ref (ad 0)])).length) Slot.unset).toArray = ls at hl ⊢
  have hl : lv_has ls 1 [(0, .ref (ad 0))] := hl
  refine lv_aload_n hx hb dX0_durable_0 rfl (lv_at hl 0 rfl) ?_
  refine va_get (D := (dC, dI)) (ci := 0) (v := .int (nI du)) (C := RX0) (T := TX0) (N := 13) hx hb h00 (fun _ h => h) hown hK hP 0 rfl rfl 12 (by decide) L1 (fun _ h9 => h9) rfl dX0_durable_1 ?_
  exact W.iret (v := nI du) hx hb hr (fun t ht hW => ⟨_, rfl, rfl, ht⟩) (fun _ h => by cases h) dX0_durable_4
set_option maxHeartbeats 4000000 in
set_option maxRecDepth 100000 in
theorem c0_activeBase (l : Launch) (dC : Nat → ClassId) (dI : Nat → Nat → Nat) (cI cZ : ClassId) (ad : Nat → Nat) (n sc st en du : Nat) (fo fk fv fr fc fb fp ft : Nat → Int32) (hs : 1 ≤ sc) (hs2 : sc ≤ 513) : Met l yX0_activeBase wsX0_activeBase ({ frames := 0, cells := 0, slots := 0, locals := 0 } : Room) (va_Pc [.ref (ad 0)] (pr_r dC dI cI cZ (w0 cI cZ ad (n, sc, st, en, du, fo, fk, fv, fr, fc, fb, fp, ft)))) (vp_Si (fun r : Int32 => r = fb (sc - 1))) 0 0 (fun _ => False) := by
  refine Met.ofW (cc := cX0_activeBase) (maxL := 1) (ret := (some .int)) (by decide) rfl ?_
  intro p e s m args below meth c s₁ B hml hv
  obtain ⟨rfl, hP, hK⟩ := hv
  have hx := B.exec
  have hb := B.bytes
  have hr := B.returns
  have hts := atoms_spec (ws := wsX0_activeBase) B.pre
  have hown : s.vm.findClass RX0 = some m.cls := findClass_of_methodNamed B.named
  have hlocks := B.notSynchronized
  have h00 : ∀ w ∈ wsX00, w.before _ s = true := fun w h => hts w (List.mem_cons_of_mem _ (List.mem_append_right _ h))
  have L1 := hts (.fieldLink RX0 30 "SegmentLog" "bases" "[I") (List.mem_of_getElem? (i := 1) rfl)
  have L2 := hts (.fieldLink RX0 33 "SegmentLog" "segmentCount" "I") (List.mem_of_getElem? (i := 2) rfl)
  have hl := lv_entry ([.ref (ad 0)]) (n := 1) (Nat.le_of_ble_eq_true rfl)
  rw [lg_entry_eq]
  generalize (lg_sl ([.ref (ad 0)]) ++ List.replicate (1 - (lg_sl ([.ref (ad 0)])).length) Slot.unset).toArray = ls at hl ⊢
  have hl : lv_has ls 1 [(0, .ref (ad 0))] := hl
  refine lv_aload_n hx hb dX0_activeBase_0 rfl (lv_at hl 0 rfl) ?_
  refine va_get (D := (dC, dI)) (ci := 0) (v := .ref (ad 6)) (C := RX0) (T := TX0) (N := 13) hx hb h00 (fun _ h => h) hown hK hP 0 rfl rfl 6 (by decide) L1 (fun _ h9 => h9) rfl dX0_activeBase_1 ?_
  refine lv_aload_n hx hb dX0_activeBase_4 rfl (lv_at hl 0 rfl) ?_
  refine va_get (D := (dC, dI)) (ci := 0) (v := .int (nI sc)) (C := RX0) (T := TX0) (N := 13) hx hb h00 (fun _ h => h) hown hK hP 0 rfl rfl 7 (by decide) L2 (fun _ h9 => h9) rfl dX0_activeBase_5 ?_
  refine lv_iconst (v := nI 1) hx hb dX0_activeBase_8 (by decide) ?_
  refine lv_isub hx hb dX0_activeBase_9 ?_
  refine qa_top (pk_sub (a := sc) (b := 1) (by omega)) ?_
  refine qa_iald (i := sc - 1) hx hb hK hP 6 0 rfl rfl (by omega) (by decide) dX0_activeBase_10 ?_
  exact W.iret (v := fb (sc - 1)) hx hb hr (fun t ht hW => ⟨_, rfl, rfl, ht⟩) (fun _ h => by cases h) dX0_activeBase_11
set_option maxHeartbeats 4000000 in
set_option maxRecDepth 100000 in
theorem c0_isGroup (l : Launch) (dC : Nat → ClassId) (dI : Nat → Nat → Nat) (cI cZ : ClassId) (ad : Nat → Nat) (n sc st en du : Nat) (fo fk fv fr fc fb fp ft : Nat → Int32) (x : Int32)  : Met l yX0_isGroup wsX0_isGroup ({ frames := 0, cells := 0, slots := 0, locals := 0 } : Room) (va_Pc [.ref (ad 0), .int x] (pr_r dC dI cI cZ (w0 cI cZ ad (n, sc, st, en, du, fo, fk, fv, fr, fc, fb, fp, ft)))) (vp_Si (fun r : Int32 => (∃ g, gp x g ∧ r = nI 1) ∨ ((∀ g, ¬ gp x g) ∧ r = nI 0))) 0 0 (fun _ => False) := by
  refine Met.ofW (cc := cX0_isGroup) (maxL := 2) (ret := (some .boolean)) (by decide) rfl ?_
  intro p e s m args below meth c s₁ B hml hv
  obtain ⟨rfl, hP, hK⟩ := hv
  have hx := B.exec
  have hb := B.bytes
  have hr := B.returns
  have hts := atoms_spec (ws := wsX0_isGroup) B.pre
  have hown : s.vm.findClass RX0 = some m.cls := findClass_of_methodNamed B.named
  have hlocks := B.notSynchronized
  have hl := lv_entry ([.ref (ad 0), .int x]) (n := 2) (Nat.le_of_ble_eq_true rfl)
  rw [lg_entry_eq]
  generalize (lg_sl ([.ref (ad 0), .int x]) ++ List.replicate (2 - (lg_sl ([.ref (ad 0), .int x])).length) Slot.unset).toArray = ls at hl ⊢
  have hl : lv_has ls 2 [(0, .ref (ad 0)), (1, .int x)] := hl
  refine lv_iload_n hx hb dX0_isGroup_0 rfl (lv_at hl 1 rfl) ?_
  refine lv_if_lt (tgt := 13) hx hb dX0_isGroup_1 (by decide) (fun c => ?_) (fun c => ?_)
  · skip
    refine lv_iconst (v := nI 0) hx hb dX0_isGroup_13 (by decide) ?_
    exact W.zret (v := nI 0) hx hb hr (by decide) (fun t ht hW => ⟨_, rfl, Or.inr ⟨gp_no (Or.inl c), rfl⟩, ht⟩) (fun _ h => by cases h) dX0_isGroup_14
  · skip
    obtain ⟨g, hg, rfl⟩ := pk_ge0 c
    refine lv_iload_n hx hb dX0_isGroup_4 rfl (lv_at hl 1 rfl) ?_
    refine lv_iconst (v := nI 4) hx hb dX0_isGroup_5 (by decide) ?_
    refine lv_icmp_ge (tgt := 13) hx hb dX0_isGroup_6 (by decide) (fun c2 => ?_) (fun c2 => ?_)
    · skip
      refine lv_iconst (v := nI 0) hx hb dX0_isGroup_13 (by decide) ?_
      exact W.zret (v := nI 0) hx hb hr (by decide) (fun t ht hW => ⟨_, rfl, Or.inr ⟨gp_no (Or.inr c2), rfl⟩, ht⟩) (fun _ h => by cases h) dX0_isGroup_14
    · skip
      refine lv_iconst (v := nI 1) hx hb dX0_isGroup_9 (by decide) ?_
      refine lv_goto (tgt := 14) hx hb dX0_isGroup_10 (by decide) ?_
      exact W.zret (v := nI 1) hx hb hr (by decide) (fun t ht hW => ⟨_, rfl, Or.inl ⟨g, ⟨q_nle (by omega) hg c2, rfl⟩, rfl⟩, ht⟩) (fun _ h => by cases h) dX0_isGroup_14
set_option maxHeartbeats 4000000 in
set_option maxRecDepth 100000 in
theorem c0_indexFrom (l : Launch) (dC : Nat → ClassId) (dI : Nat → Nat → Nat) (cI cZ : ClassId) (ad : Nat → Nat) (n sc st en du : Nat) (fo fk fv fr fc fb fp ft : Nat → Int32) (x : Int32) (hn : n ≤ 60) : Met l yX0_indexFrom wsX0_indexFrom ({ frames := 0, cells := 0, slots := 0, locals := 0 } : Room) (va_Pc [.ref (ad 0), .int x] (pr_r dC dI cI cZ (w0 cI cZ ad (n, sc, st, en, du, fo, fk, fv, fr, fc, fb, fp, ft)))) (vp_Si (fun r : Int32 => ∃ j, ix fo n x j ∧ r = nI j)) 0 0 (fun _ => False) := by
  refine Met.ofW (cc := cX0_indexFrom) (maxL := 3) (ret := (some .int)) (by decide) rfl ?_
  intro p e s m args below meth c s₁ B hml hv
  obtain ⟨rfl, hP, hK⟩ := hv
  have hx := B.exec
  have hb := B.bytes
  have hr := B.returns
  have hts := atoms_spec (ws := wsX0_indexFrom) B.pre
  have hown : s.vm.findClass RX0 = some m.cls := findClass_of_methodNamed B.named
  have hlocks := B.notSynchronized
  have h00 : ∀ w ∈ wsX00, w.before _ s = true := fun w h => hts w (List.mem_cons_of_mem _ (List.mem_append_right _ h))
  have L1 := hts (.fieldLink RX0 26 "SegmentLog" "recordCount" "I") (List.mem_of_getElem? (i := 1) rfl)
  have L2 := hts (.fieldLink RX0 9 "SegmentLog" "offsets" "[I") (List.mem_of_getElem? (i := 2) rfl)
  have hl := lv_entry ([.ref (ad 0), .int x]) (n := 3) (Nat.le_of_ble_eq_true rfl)
  rw [lg_entry_eq]
  generalize (lg_sl ([.ref (ad 0), .int x]) ++ List.replicate (3 - (lg_sl ([.ref (ad 0), .int x])).length) Slot.unset).toArray = ls at hl ⊢
  have hl : lv_has ls 3 [(0, .ref (ad 0)), (1, .int x)] := hl
  refine lv_iconst (v := nI 0) hx hb dX0_indexFrom_0 (by decide) ?_
  refine lv_istore_n (lv' := [(2, .int (nI 0)), (0, .ref (ad 0)), (1, .int x)]) hx hb dX0_indexFrom_1 rfl hl (by decide) rfl (fun ls hl => ?_)
  have loop : ∀ (k i : Nat) (ls : Array Slot), n + 1 ≤ i + k → i ≤ n → (∀ q, q < i → fo q < x) → lv_has ls 3 [(2, .int (nI i)), (0, .ref (ad 0)), (1, .int x)] → W p l e (headSpec wsX0_indexFrom ({ frames := 0, cells := 0, slots := 0, locals := 0 } : Room)).room s m ([.ref (ad 0), .int x] : List Value).toArray below meth c s.heap [] 0 0 (MQ below (vp_Si (fun r : Int32 => ∃ j, ix fo n x j ∧ r = nI j)) ([.ref (ad 0), .int x] : List Value).toArray s 0 0 (fun _ => False)) (F0 m 2 ls []) := by
    intro k
    induction k with
    | zero => intro i ls h1 h2; omega
    | succ k ih =>
      intro i ls h1 h2 h3 hl
      refine lv_iload_n hx hb dX0_indexFrom_2 rfl (lv_at hl 0 rfl) ?_
      refine lv_aload_n hx hb dX0_indexFrom_3 rfl (lv_at hl 1 rfl) ?_
      refine va_get (D := (dC, dI)) (ci := 0) (v := .int (nI n)) (C := RX0) (T := TX0) (N := 13) hx hb h00 (fun _ h => h) hown hK hP 0 rfl rfl 5 (by decide) L1 (fun _ h9 => h9) rfl dX0_indexFrom_4 ?_
      refine lv_icmp_ge (tgt := 26) hx hb dX0_indexFrom_7 (by decide) (fun c1 => ?_) (fun c1 => ?_)
      · skip
        have hi : i = n := by have := (nI_leI (by omega) (by omega)).mp c1; omega
        refine lv_iload_n hx hb dX0_indexFrom_26 rfl (lv_at hl 0 rfl) ?_
        exact W.iret (v := nI i) hx hb hr (fun t ht hW => ⟨_, rfl, ⟨i, ⟨h2, h3, fun h => by omega⟩, rfl⟩, ht⟩) (fun _ h => by cases h) dX0_indexFrom_27
      · skip
        have hi : i < n := q_nle (by omega) (by omega) c1
        refine lv_aload_n hx hb dX0_indexFrom_10 rfl (lv_at hl 1 rfl) ?_
        refine va_get (D := (dC, dI)) (ci := 0) (v := .ref (ad 1)) (C := RX0) (T := TX0) (N := 13) hx hb h00 (fun _ h => h) hown hK hP 0 rfl rfl 0 (by decide) L2 (fun _ h9 => h9) rfl dX0_indexFrom_11 ?_
        refine lv_iload_n hx hb dX0_indexFrom_14 rfl (lv_at hl 0 rfl) ?_
        refine qa_iald (i := i) hx hb hK hP 1 0 rfl rfl (by omega) (by decide) dX0_indexFrom_15 ?_
        refine lv_iload_n hx hb dX0_indexFrom_16 rfl (lv_at hl 2 rfl) ?_
        refine lv_icmp_ge (tgt := 26) hx hb dX0_indexFrom_17 (by decide) (fun c2 => ?_) (fun c2 => ?_)
        · skip
          refine lv_iload_n hx hb dX0_indexFrom_26 rfl (lv_at hl 0 rfl) ?_
          exact W.iret (v := nI i) hx hb hr (fun t ht hW => ⟨_, rfl, ⟨i, ⟨h2, h3, fun _ => Int32.not_lt.mpr c2⟩, rfl⟩, ht⟩) (fun _ h => by cases h) dX0_indexFrom_27
        · skip
          refine lv_iinc (v := nI (i + 1)) (lv' := [(2, .int (nI (i + 1))), (0, .ref (ad 0)), (1, .int x)]) hx hb dX0_indexFrom_20 hl (k := 0) rfl (qa_inc1 i) (by decide) rfl (fun ls hl => ?_)
          refine lv_goto (tgt := 2) hx hb dX0_indexFrom_23 (by decide) ?_
          exact ih (i + 1) ls (by omega) (by omega) (lt_s h3 (Int32.not_le.mp c2)) (lv_sub hl [0, 1, 2] rfl)
  exact loop (n + 1) 0 ls (by omega) (by omega) (fun q h => absurd h (Nat.not_lt_zero q)) (lv_sub hl [0, 1, 2] rfl)
set_option maxHeartbeats 4000000 in
set_option maxRecDepth 100000 in
theorem c0_recordsFrom (l : Launch) (dC : Nat → ClassId) (dI : Nat → Nat → Nat) (cI cZ : ClassId) (ad : Nat → Nat) (n sc st en du : Nat) (fo fk fv fr fc fb fp ft : Nat → Int32) (x : Int32) (hn : n ≤ 60) : Met l yX0_recordsFrom wsX0_recordsFrom ({ frames := 1, cells := 0, slots := 0, locals := 30 } : Room) (va_Pc [.ref (ad 0), .int x] (pr_r dC dI cI cZ (w0 cI cZ ad (n, sc, st, en, du, fo, fk, fv, fr, fc, fb, fp, ft)))) (vp_Si (fun r : Int32 => ∃ j, ix fo n x j ∧ r = nI (n - j))) 0 0 (fun _ => False) := by
  refine Met.ofW (cc := cX0_recordsFrom) (maxL := 2) (ret := (some .int)) (by decide) rfl ?_
  intro p e s m args below meth c s₁ B hml hv
  obtain ⟨rfl, hP, hK⟩ := hv
  have hx := B.exec
  have hb := B.bytes
  have hr := B.returns
  have hts := atoms_spec (ws := wsX0_recordsFrom) B.pre
  have hown : s.vm.findClass RX0 = some m.cls := findClass_of_methodNamed B.named
  have hlocks := B.notSynchronized
  have h00 : ∀ w ∈ wsX00, w.before _ s = true := fun w h => hts w (List.mem_cons_of_mem _ (List.mem_append_right _ h))
  have L1 := hts (.fieldLink RX0 26 "SegmentLog" "recordCount" "I") (List.mem_of_getElem? (i := 1) rfl)
  have hl := lv_entry ([.ref (ad 0), .int x]) (n := 2) (Nat.le_of_ble_eq_true rfl)
  rw [lg_entry_eq]
  generalize (lg_sl ([.ref (ad 0), .int x]) ++ List.replicate (2 - (lg_sl ([.ref (ad 0), .int x])).length) Slot.unset).toArray = ls at hl ⊢
  have hl : lv_has ls 2 [(0, .ref (ad 0)), (1, .int x)] := hl
  refine lv_aload_n hx hb dX0_recordsFrom_0 rfl (lv_at hl 0 rfl) ?_
  refine va_get (D := (dC, dI)) (ci := 0) (v := .int (nI n)) (C := RX0) (T := TX0) (N := 13) hx hb h00 (fun _ h => h) hown hK hP 0 rfl rfl 5 (by decide) L1 (fun _ h9 => h9) rfl dX0_recordsFrom_1 ?_
  refine lv_aload_n hx hb dX0_recordsFrom_4 rfl (lv_at hl 0 rfl) ?_
  refine lv_iload_n hx hb dX0_recordsFrom_5 rfl (lv_at hl 1 rfl) ?_
  refine vp_callSi (W.runV (As := [.int x]) (rest := [.int (nI n)]) ⟨hx, hb, hml, hown, hts⟩ (c0_indexFrom l dC dI cI cZ ad n sc st en du fo fk fv fr fc fb fp ft x hn) (cwV 1 hts gX0_recordsFrom_X0_indexFrom rfl rfl rfl (by decide +kernel) ⟨Nat.le_of_ble_eq_true rfl, Nat.le_of_ble_eq_true rfl⟩) ⟨bl_r, va_recv hK hP (ci := 0) (q0 := 0) rfl rfl, fun U hU hW => ⟨rfl, by rw [hU]; exact hP, va_K.moved hW.alike hK⟩⟩ rfl rfl hl.1 rfl (lv_room (Nat.le_of_ble_eq_true rfl)) dX0_recordsFrom_6 ⟨by decide, by decide⟩) (fun r1 hq => ?_)
  obtain ⟨j, hj, rfl⟩ := hq
  have hjn := hj.1
  refine lv_isub hx hb dX0_recordsFrom_9 ?_
  refine qa_top (pk_sub (a := n) (b := j) (by omega)) ?_
  exact W.iret (v := nI (n - j)) hx hb hr (fun t ht hW => ⟨_, rfl, ⟨j, hj, rfl⟩, ht⟩) (fun _ h => by cases h) dX0_recordsFrom_10
set_option maxHeartbeats 4000000 in
set_option maxRecDepth 100000 in
theorem c0_point (l : Launch) (dC : Nat → ClassId) (dI : Nat → Nat → Nat) (cI cZ : ClassId) (ad : Nat → Nat) (n sc st en du : Nat) (fo fk fv fr fc fb fp ft : Nat → Int32) (hs : 1 ≤ sc) (hs2 : sc ≤ 513) : Met l yX0_point wsX0_point ({ frames := 0, cells := 0, slots := 0, locals := 0 } : Room) (va_Pc [.ref (ad 0)] (pr_r dC dI cI cZ (w0 cI cZ ad (n, sc, st, en, du, fo, fk, fv, fr, fc, fb, fp, ft)))) (vp_Si (fun r : Int32 => ∃ k, k < sc ∧ r = fb k ∧ (∀ i, k < i → i < sc → ¬ fb i ≤ nI du) ∧ (0 < k → fb k ≤ nI du))) 0 0 (fun _ => False) := by
  refine Met.ofW (cc := cX0_point) (maxL := 2) (ret := (some .int)) (by decide) rfl ?_
  intro p e s m args below meth c s₁ B hml hv
  obtain ⟨rfl, hP, hK⟩ := hv
  have hx := B.exec
  have hb := B.bytes
  have hr := B.returns
  have hts := atoms_spec (ws := wsX0_point) B.pre
  have hown : s.vm.findClass RX0 = some m.cls := findClass_of_methodNamed B.named
  have hlocks := B.notSynchronized
  have h00 : ∀ w ∈ wsX00, w.before _ s = true := fun w h => hts w (List.mem_cons_of_mem _ (List.mem_append_right _ h))
  have L1 := hts (.fieldLink RX0 33 "SegmentLog" "segmentCount" "I") (List.mem_of_getElem? (i := 1) rfl)
  have L2 := hts (.fieldLink RX0 30 "SegmentLog" "bases" "[I") (List.mem_of_getElem? (i := 2) rfl)
  have L3 := hts (.fieldLink RX0 48 "SegmentLog" "durableOffset" "I") (List.mem_of_getElem? (i := 3) rfl)
  have hl := lv_entry ([.ref (ad 0)]) (n := 2) (Nat.le_of_ble_eq_true rfl)
  rw [lg_entry_eq]
  generalize (lg_sl ([.ref (ad 0)]) ++ List.replicate (2 - (lg_sl ([.ref (ad 0)])).length) Slot.unset).toArray = ls at hl ⊢
  have hl : lv_has ls 2 [(0, .ref (ad 0))] := hl
  refine lv_aload_n hx hb dX0_point_0 rfl (lv_at hl 0 rfl) ?_
  refine va_get (D := (dC, dI)) (ci := 0) (v := .int (nI sc)) (C := RX0) (T := TX0) (N := 13) hx hb h00 (fun _ h => h) hown hK hP 0 rfl rfl 7 (by decide) L1 (fun _ h9 => h9) rfl dX0_point_1 ?_
  refine lv_iconst (v := nI 1) hx hb dX0_point_4 (by decide) ?_
  refine lv_isub hx hb dX0_point_5 ?_
  refine qa_top (pk_sub (a := sc) (b := 1) (by omega)) ?_
  refine lv_istore_n (lv' := [(1, .int (nI (sc - 1))), (0, .ref (ad 0))]) hx hb dX0_point_6 rfl hl (by decide) rfl (fun ls hl => ?_)
  have loop : ∀ (k : Nat) (ls : Array Slot), k < sc → (∀ i, k < i → i < sc → ¬ fb i ≤ nI du) → lv_has ls 2 [(1, .int (nI k)), (0, .ref (ad 0))] → W p l e (headSpec wsX0_point ({ frames := 0, cells := 0, slots := 0, locals := 0 } : Room)).room s m ([.ref (ad 0)] : List Value).toArray below meth c s.heap [] 0 0 (MQ below (vp_Si (fun r : Int32 => ∃ k, k < sc ∧ r = fb k ∧ (∀ i, k < i → i < sc → ¬ fb i ≤ nI du) ∧ (0 < k → fb k ≤ nI du))) ([.ref (ad 0)] : List Value).toArray s 0 0 (fun _ => False)) (F0 m 7 ls []) := by
    intro k
    induction k with
    | zero =>
      intro ls h1 h2 hl
      refine lv_iload_n hx hb dX0_point_7 rfl (lv_at hl 0 rfl) ?_
      refine lv_if_le (tgt := 30) hx hb dX0_point_8 (by decide) (fun c1 => ?_) (fun c1 => ?_)
      · skip
        refine lv_aload_n hx hb dX0_point_30 rfl (lv_at hl 1 rfl) ?_
        refine va_get (D := (dC, dI)) (ci := 0) (v := .ref (ad 6)) (C := RX0) (T := TX0) (N := 13) hx hb h00 (fun _ h => h) hown hK hP 0 rfl rfl 6 (by decide) L2 (fun _ h9 => h9) rfl dX0_point_31 ?_
        refine lv_iload_n hx hb dX0_point_34 rfl (lv_at hl 0 rfl) ?_
        refine qa_iald (i := 0) hx hb hK hP 6 0 rfl rfl (by omega) (by decide) dX0_point_35 ?_
        exact W.iret (v := fb 0) hx hb hr (fun t ht hW => ⟨_, rfl, ⟨0, h1, rfl, h2, fun h => absurd h (Nat.lt_irrefl 0)⟩, ht⟩) (fun _ h => by cases h) dX0_point_36
      · skip
        exact absurd (by decide) c1
    | succ k ih =>
      intro ls h1 h2 hl
      refine lv_iload_n hx hb dX0_point_7 rfl (lv_at hl 0 rfl) ?_
      refine lv_if_le (tgt := 30) hx hb dX0_point_8 (by decide) (fun c1 => ?_) (fun c1 => ?_)
      · skip
        exact absurd c1 (nI_nle (by omega) (by omega))
      · skip
        refine lv_aload_n hx hb dX0_point_11 rfl (lv_at hl 1 rfl) ?_
        refine va_get (D := (dC, dI)) (ci := 0) (v := .ref (ad 6)) (C := RX0) (T := TX0) (N := 13) hx hb h00 (fun _ h => h) hown hK hP 0 rfl rfl 6 (by decide) L2 (fun _ h9 => h9) rfl dX0_point_12 ?_
        refine lv_iload_n hx hb dX0_point_15 rfl (lv_at hl 0 rfl) ?_
        refine qa_iald (i := k + 1) hx hb hK hP 6 0 rfl rfl (by omega) (by decide) dX0_point_16 ?_
        refine lv_aload_n hx hb dX0_point_17 rfl (lv_at hl 1 rfl) ?_
        refine va_get (D := (dC, dI)) (ci := 0) (v := .int (nI du)) (C := RX0) (T := TX0) (N := 13) hx hb h00 (fun _ h => h) hown hK hP 0 rfl rfl 12 (by decide) L3 (fun _ h9 => h9) rfl dX0_point_18 ?_
        refine lv_icmp_le (tgt := 30) hx hb dX0_point_21 (by decide) (fun c2 => ?_) (fun c2 => ?_)
        · skip
          refine lv_aload_n hx hb dX0_point_30 rfl (lv_at hl 1 rfl) ?_
          refine va_get (D := (dC, dI)) (ci := 0) (v := .ref (ad 6)) (C := RX0) (T := TX0) (N := 13) hx hb h00 (fun _ h => h) hown hK hP 0 rfl rfl 6 (by decide) L2 (fun _ h9 => h9) rfl dX0_point_31 ?_
          refine lv_iload_n hx hb dX0_point_34 rfl (lv_at hl 0 rfl) ?_
          refine qa_iald (i := k + 1) hx hb hK hP 6 0 rfl rfl (by omega) (by decide) dX0_point_35 ?_
          exact W.iret (v := fb (k + 1)) hx hb hr (fun t ht hW => ⟨_, rfl, ⟨k + 1, h1, rfl, h2, fun _ => c2⟩, ht⟩) (fun _ h => by cases h) dX0_point_36
        · skip
          refine lv_iinc (v := nI k) (lv' := [(1, .int (nI k)), (0, .ref (ad 0))]) hx hb dX0_point_24 hl (k := 0) rfl (qa_dec k) (by decide) rfl (fun ls hl => ?_)
          refine lv_goto (tgt := 7) hx hb dX0_point_27 (by decide) ?_
          refine ih ls (by omega) (fun i q1 q2 => ?_) (lv_sub hl [0, 1] rfl)
          rcases Nat.lt_or_ge (k + 1) i with h | h
          · exact h2 i h q2
          · have : i = k + 1 := by omega
            subst this; exact c2
  exact loop (sc - 1) ls (by omega) (fun i h1 h2 => by omega) (lv_sub hl [0, 1] rfl)
set_option maxHeartbeats 4000000 in
set_option maxRecDepth 100000 in
theorem c0_outlivesCleaning (l : Launch) (dC : Nat → ClassId) (dI : Nat → Nat → Nat) (cI cZ : ClassId) (ad : Nat → Nat) (n sc st en du : Nat) (fo fk fv fr fc fb fp ft : Nat → Int32) (i κ : Nat) (hi : i < n) (hn : n ≤ 60) (hk : fk i = nI κ) (hk2 : κ < 16) : Met l yX0_outlivesCleaning wsX0_outlivesCleaning ({ frames := 0, cells := 0, slots := 0, locals := 0 } : Room) (va_Pc [.ref (ad 0), .int (nI i)] (pr_r dC dI cI cZ (w0 cI cZ ad (n, sc, st, en, du, fo, fk, fv, fr, fc, fb, fp, ft)))) (vp_Si (fun r : Int32 => (r = nI 1 ∧ (ft κ = nI i ∧ (fr i = 0 ∨ fc i = 0))) ∨ (r = nI 0 ∧ ¬ (ft κ = nI i ∧ (fr i = 0 ∨ fc i = 0))))) 0 0 (fun _ => False) := by
  refine Met.ofW (cc := cX0_outlivesCleaning) (maxL := 2) (ret := (some .boolean)) (by decide) rfl ?_
  intro p e s m args below meth c s₁ B hml hv
  obtain ⟨rfl, hP, hK⟩ := hv
  have hx := B.exec
  have hb := B.bytes
  have hr := B.returns
  have hts := atoms_spec (ws := wsX0_outlivesCleaning) B.pre
  have hown : s.vm.findClass RX0 = some m.cls := findClass_of_methodNamed B.named
  have hlocks := B.notSynchronized
  have h00 : ∀ w ∈ wsX00, w.before _ s = true := fun w h => hts w (List.mem_cons_of_mem _ (List.mem_append_right _ h))
  have L1 := hts (.fieldLink RX0 39 "SegmentLog" "latestIndex" "[I") (List.mem_of_getElem? (i := 1) rfl)
  have L2 := hts (.fieldLink RX0 13 "SegmentLog" "keys" "[I") (List.mem_of_getElem? (i := 2) rfl)
  have L3 := hts (.fieldLink RX0 19 "SegmentLog" "removals" "[Z") (List.mem_of_getElem? (i := 3) rfl)
  have L4 := hts (.fieldLink RX0 23 "SegmentLog" "cleaned" "[Z") (List.mem_of_getElem? (i := 4) rfl)
  have hl := lv_entry ([.ref (ad 0), .int (nI i)]) (n := 2) (Nat.le_of_ble_eq_true rfl)
  rw [lg_entry_eq]
  generalize (lg_sl ([.ref (ad 0), .int (nI i)]) ++ List.replicate (2 - (lg_sl ([.ref (ad 0), .int (nI i)])).length) Slot.unset).toArray = ls at hl ⊢
  have hl : lv_has ls 2 [(0, .ref (ad 0)), (1, .int (nI i))] := hl
  refine lv_aload_n hx hb dX0_outlivesCleaning_0 rfl (lv_at hl 0 rfl) ?_
  refine va_get (D := (dC, dI)) (ci := 0) (v := .ref (ad 8)) (C := RX0) (T := TX0) (N := 13) hx hb h00 (fun _ h => h) hown hK hP 0 rfl rfl 9 (by decide) L1 (fun _ h9 => h9) rfl dX0_outlivesCleaning_1 ?_
  refine lv_aload_n hx hb dX0_outlivesCleaning_4 rfl (lv_at hl 0 rfl) ?_
  refine va_get (D := (dC, dI)) (ci := 0) (v := .ref (ad 2)) (C := RX0) (T := TX0) (N := 13) hx hb h00 (fun _ h => h) hown hK hP 0 rfl rfl 1 (by decide) L2 (fun _ h9 => h9) rfl dX0_outlivesCleaning_5 ?_
  refine lv_iload_n hx hb dX0_outlivesCleaning_8 rfl (lv_at hl 1 rfl) ?_
  refine qa_iald (i := i) hx hb hK hP 2 0 rfl rfl (by omega) (by decide) dX0_outlivesCleaning_9 ?_
  refine qa_top hk ?_
  refine qa_iald (i := κ) hx hb hK hP 8 0 rfl rfl (by omega) (by decide) dX0_outlivesCleaning_10 ?_
  refine lv_iload_n hx hb dX0_outlivesCleaning_11 rfl (lv_at hl 1 rfl) ?_
  refine lv_icmp_ne (tgt := 37) hx hb dX0_outlivesCleaning_12 (by decide) (fun c1 => ?_) (fun c1 => ?_)
  · skip
    refine lv_iconst (v := nI 0) hx hb dX0_outlivesCleaning_37 (by decide) ?_
    exact W.zret (v := nI 0) hx hb hr (by decide) (fun t ht hW => ⟨_, rfl, Or.inr ⟨rfl, fun h => c1 h.1⟩, ht⟩) (fun _ h => by cases h) dX0_outlivesCleaning_38
  · skip
    refine lv_aload_n hx hb dX0_outlivesCleaning_15 rfl (lv_at hl 0 rfl) ?_
    refine va_get (D := (dC, dI)) (ci := 0) (v := .ref (ad 4)) (C := RX0) (T := TX0) (N := 13) hx hb h00 (fun _ h => h) hown hK hP 0 rfl rfl 3 (by decide) L3 (fun _ h9 => h9) rfl dX0_outlivesCleaning_16 ?_
    refine lv_iload_n hx hb dX0_outlivesCleaning_19 rfl (lv_at hl 1 rfl) ?_
    refine qa_zald (i := i) hx hb hK hP 4 1 rfl rfl (by omega) (by decide) dX0_outlivesCleaning_20 ?_
    refine lv_if_eq (tgt := 33) hx hb dX0_outlivesCleaning_21 (by decide) (fun c2 => ?_) (fun c2 => ?_)
    · skip
      refine lv_iconst (v := nI 1) hx hb dX0_outlivesCleaning_33 (by decide) ?_
      refine lv_goto (tgt := 38) hx hb dX0_outlivesCleaning_34 (by decide) ?_
      exact W.zret (v := nI 1) hx hb hr (by decide) (fun t ht hW => ⟨_, rfl, Or.inl ⟨rfl, c1, Or.inl c2⟩, ht⟩) (fun _ h => by cases h) dX0_outlivesCleaning_38
    · skip
      refine lv_aload_n hx hb dX0_outlivesCleaning_24 rfl (lv_at hl 0 rfl) ?_
      refine va_get (D := (dC, dI)) (ci := 0) (v := .ref (ad 5)) (C := RX0) (T := TX0) (N := 13) hx hb h00 (fun _ h => h) hown hK hP 0 rfl rfl 4 (by decide) L4 (fun _ h9 => h9) rfl dX0_outlivesCleaning_25 ?_
      refine lv_iload_n hx hb dX0_outlivesCleaning_28 rfl (lv_at hl 1 rfl) ?_
      refine qa_zald (i := i) hx hb hK hP 5 1 rfl rfl (by omega) (by decide) dX0_outlivesCleaning_29 ?_
      refine lv_if_ne (tgt := 37) hx hb dX0_outlivesCleaning_30 (by decide) (fun c3 => ?_) (fun c3 => ?_)
      · skip
        refine lv_iconst (v := nI 0) hx hb dX0_outlivesCleaning_37 (by decide) ?_
        exact W.zret (v := nI 0) hx hb hr (by decide) (fun t ht hW => ⟨_, rfl, Or.inr ⟨rfl, fun h => h.2.elim c2 c3⟩, ht⟩) (fun _ h => by cases h) dX0_outlivesCleaning_38
      · skip
        refine lv_iconst (v := nI 1) hx hb dX0_outlivesCleaning_33 (by decide) ?_
        refine lv_goto (tgt := 38) hx hb dX0_outlivesCleaning_34 (by decide) ?_
        exact W.zret (v := nI 1) hx hb hr (by decide) (fun t ht hW => ⟨_, rfl, Or.inl ⟨rfl, c1, Or.inr c3⟩, ht⟩) (fun _ h => by cases h) dX0_outlivesCleaning_38
set_option maxHeartbeats 4000000 in
set_option maxRecDepth 100000 in
theorem c0_next (l : Launch) (dC : Nat → ClassId) (dI : Nat → Nat → Nat) (cI cZ : ClassId) (ad : Nat → Nat) (n sc st en du : Nat) (fo fk fv fr fc fb fp ft : Nat → Int32) (x : Int32) (hn : n ≤ 60) : Met l yX0_next wsX0_next ({ frames := 1, cells := 0, slots := 0, locals := 30 } : Room) (va_Pc [.ref (ad 0), .int x] (pr_r dC dI cI cZ (w0 cI cZ ad (n, sc, st, en, du, fo, fk, fv, fr, fc, fb, fp, ft)))) (vp_Si (fun r : Int32 => ∃ j, ix fo n x j ∧ ((j < n ∧ r = fo j) ∨ (j = n ∧ r = -1)))) 0 0 (fun _ => False) := by
  refine Met.ofW (cc := cX0_next) (maxL := 3) (ret := (some .int)) (by decide) rfl ?_
  intro p e s m args below meth c s₁ B hml hv
  obtain ⟨rfl, hP, hK⟩ := hv
  have hx := B.exec
  have hb := B.bytes
  have hr := B.returns
  have hts := atoms_spec (ws := wsX0_next) B.pre
  have hown : s.vm.findClass RX0 = some m.cls := findClass_of_methodNamed B.named
  have hlocks := B.notSynchronized
  have h00 : ∀ w ∈ wsX00, w.before _ s = true := fun w h => hts w (List.mem_cons_of_mem _ (List.mem_append_right _ h))
  have L1 := hts (.fieldLink RX0 26 "SegmentLog" "recordCount" "I") (List.mem_of_getElem? (i := 1) rfl)
  have L2 := hts (.fieldLink RX0 9 "SegmentLog" "offsets" "[I") (List.mem_of_getElem? (i := 2) rfl)
  have hl := lv_entry ([.ref (ad 0), .int x]) (n := 3) (Nat.le_of_ble_eq_true rfl)
  rw [lg_entry_eq]
  generalize (lg_sl ([.ref (ad 0), .int x]) ++ List.replicate (3 - (lg_sl ([.ref (ad 0), .int x])).length) Slot.unset).toArray = ls at hl ⊢
  have hl : lv_has ls 3 [(0, .ref (ad 0)), (1, .int x)] := hl
  refine lv_aload_n hx hb dX0_next_0 rfl (lv_at hl 0 rfl) ?_
  refine lv_iload_n hx hb dX0_next_1 rfl (lv_at hl 1 rfl) ?_
  refine vp_callSi (W.runV (As := [.int x]) (rest := []) ⟨hx, hb, hml, hown, hts⟩ (c0_indexFrom l dC dI cI cZ ad n sc st en du fo fk fv fr fc fb fp ft x hn) (cwV 1 hts gX0_next_X0_indexFrom rfl rfl rfl (by decide +kernel) ⟨Nat.le_of_ble_eq_true rfl, Nat.le_of_ble_eq_true rfl⟩) ⟨bl_r, va_recv hK hP (ci := 0) (q0 := 0) rfl rfl, fun U hU hW => ⟨rfl, by rw [hU]; exact hP, va_K.moved hW.alike hK⟩⟩ rfl rfl hl.1 rfl (lv_room (Nat.le_of_ble_eq_true rfl)) dX0_next_2 ⟨by decide, by decide⟩) (fun r1 hq => ?_)
  obtain ⟨j, hj, rfl⟩ := hq
  have hjn := hj.1
  refine lv_istore_n (lv' := [(2, .int (nI j)), (0, .ref (ad 0)), (1, .int x)]) hx hb dX0_next_5 rfl hl (by decide) rfl (fun ls hl => ?_)
  refine lv_iload_n hx hb dX0_next_6 rfl (lv_at hl 0 rfl) ?_
  refine lv_aload_n hx hb dX0_next_7 rfl (lv_at hl 1 rfl) ?_
  refine va_get (D := (dC, dI)) (ci := 0) (v := .int (nI n)) (C := RX0) (T := TX0) (N := 13) hx hb h00 (fun _ h => h) hown hK hP 0 rfl rfl 5 (by decide) L1 (fun _ h9 => h9) rfl dX0_next_8 ?_
  refine lv_icmp_ge (tgt := 23) hx hb dX0_next_11 (by decide) (fun c1 => ?_) (fun c1 => ?_)
  · skip
    have hc := (nI_leI (by omega) (by omega)).mp c1
    refine lv_iconst (v := (-1)) hx hb dX0_next_23 (by decide) ?_
    exact W.iret (v := (-1)) hx hb hr (fun t ht hW => ⟨_, rfl, ⟨j, hj, Or.inr ⟨by omega, rfl⟩⟩, ht⟩) (fun _ h => by cases h) dX0_next_24
  · skip
    have hc : j < n := q_nle (by omega) (by omega) c1
    refine lv_aload_n hx hb dX0_next_14 rfl (lv_at hl 1 rfl) ?_
    refine va_get (D := (dC, dI)) (ci := 0) (v := .ref (ad 1)) (C := RX0) (T := TX0) (N := 13) hx hb h00 (fun _ h => h) hown hK hP 0 rfl rfl 0 (by decide) L2 (fun _ h9 => h9) rfl dX0_next_15 ?_
    refine lv_iload_n hx hb dX0_next_18 rfl (lv_at hl 0 rfl) ?_
    refine qa_iald (i := j) hx hb hK hP 1 0 rfl rfl (by omega) (by decide) dX0_next_19 ?_
    refine lv_goto (tgt := 24) hx hb dX0_next_20 (by decide) ?_
    exact W.iret (v := fo j) hx hb hr (fun t ht hW => ⟨_, rfl, ⟨j, hj, Or.inl ⟨hc, rfl⟩⟩, ht⟩) (fun _ h => by cases h) dX0_next_24
set_option maxHeartbeats 4000000 in
set_option maxRecDepth 100000 in
theorem c0_position (l : Launch) (dC : Nat → ClassId) (dI : Nat → Nat → Nat) (cI cZ : ClassId) (ad : Nat → Nat) (n sc st en du : Nat) (fo fk fv fr fc fb fp ft : Nat → Int32) (x : Int32)  : Met l yX0_position wsX0_position ({ frames := 1, cells := 0, slots := 0, locals := 30 } : Room) (va_Pc [.ref (ad 0), .int x] (pr_r dC dI cI cZ (w0 cI cZ ad (n, sc, st, en, du, fo, fk, fv, fr, fc, fb, fp, ft)))) (vp_Si (fun r : Int32 => (∃ g, gp x g ∧ r = fp g) ∨ ((∀ g, ¬ gp x g) ∧ r = -1))) 0 0 (fun _ => False) := by
  refine Met.ofW (cc := cX0_position) (maxL := 2) (ret := (some .int)) (by decide) rfl ?_
  intro p e s m args below meth c s₁ B hml hv
  obtain ⟨rfl, hP, hK⟩ := hv
  have hx := B.exec
  have hb := B.bytes
  have hr := B.returns
  have hts := atoms_spec (ws := wsX0_position) B.pre
  have hown : s.vm.findClass RX0 = some m.cls := findClass_of_methodNamed B.named
  have hlocks := B.notSynchronized
  have h00 : ∀ w ∈ wsX00, w.before _ s = true := fun w h => hts w (List.mem_cons_of_mem _ (List.mem_append_right _ h))
  have L1 := hts (.fieldLink RX0 36 "SegmentLog" "positions" "[I") (List.mem_of_getElem? (i := 1) rfl)
  have hl := lv_entry ([.ref (ad 0), .int x]) (n := 2) (Nat.le_of_ble_eq_true rfl)
  rw [lg_entry_eq]
  generalize (lg_sl ([.ref (ad 0), .int x]) ++ List.replicate (2 - (lg_sl ([.ref (ad 0), .int x])).length) Slot.unset).toArray = ls at hl ⊢
  have hl : lv_has ls 2 [(0, .ref (ad 0)), (1, .int x)] := hl
  refine lv_aload_n hx hb dX0_position_0 rfl (lv_at hl 0 rfl) ?_
  refine lv_iload_n hx hb dX0_position_1 rfl (lv_at hl 1 rfl) ?_
  refine vp_callSi (W.runV (As := [.int x]) (rest := []) ⟨hx, hb, hml, hown, hts⟩ (c0_isGroup l dC dI cI cZ ad n sc st en du fo fk fv fr fc fb fp ft x ) (cwV 1 hts gX0_position_X0_isGroup rfl rfl rfl (by decide +kernel) ⟨Nat.le_of_ble_eq_true rfl, Nat.le_of_ble_eq_true rfl⟩) ⟨bl_r, va_recv hK hP (ci := 0) (q0 := 0) rfl rfl, fun U hU hW => ⟨rfl, by rw [hU]; exact hP, va_K.moved hW.alike hK⟩⟩ rfl rfl hl.1 rfl (lv_room (Nat.le_of_ble_eq_true rfl)) dX0_position_2 ⟨by decide, by decide⟩) (fun r1 hq => ?_)
  rcases hq with ⟨g, hg, rfl⟩ | ⟨hg, rfl⟩
  · skip
    refine lv_if_eq (tgt := 17) hx hb dX0_position_5 (by decide) (fun c1 => ?_) (fun c1 => ?_)
    · skip
      exact absurd c1 (by decide)
    · skip
      obtain ⟨hg4, rfl⟩ := hg
      refine lv_aload_n hx hb dX0_position_8 rfl (lv_at hl 0 rfl) ?_
      refine va_get (D := (dC, dI)) (ci := 0) (v := .ref (ad 7)) (C := RX0) (T := TX0) (N := 13) hx hb h00 (fun _ h => h) hown hK hP 0 rfl rfl 8 (by decide) L1 (fun _ h9 => h9) rfl dX0_position_9 ?_
      refine lv_iload_n hx hb dX0_position_12 rfl (lv_at hl 1 rfl) ?_
      refine qa_iald (i := g) hx hb hK hP 7 0 rfl rfl (by omega) (by decide) dX0_position_13 ?_
      refine lv_goto (tgt := 18) hx hb dX0_position_14 (by decide) ?_
      exact W.iret (v := fp g) hx hb hr (fun t ht hW => ⟨_, rfl, Or.inl ⟨g, ⟨hg4, rfl⟩, rfl⟩, ht⟩) (fun _ h => by cases h) dX0_position_18
  · skip
    refine lv_if_eq (tgt := 17) hx hb dX0_position_5 (by decide) (fun c1 => ?_) (fun c1 => ?_)
    · skip
      refine lv_iconst (v := (-1)) hx hb dX0_position_17 (by decide) ?_
      exact W.iret (v := (-1)) hx hb hr (fun t ht hW => ⟨_, rfl, Or.inr ⟨hg, rfl⟩, ht⟩) (fun _ h => by cases h) dX0_position_18
    · skip
      exact absurd rfl c1
set_option maxHeartbeats 4000000 in
set_option maxRecDepth 100000 in
theorem c0_lag (l : Launch) (dC : Nat → ClassId) (dI : Nat → Nat → Nat) (cI cZ : ClassId) (ad : Nat → Nat) (n sc st en du : Nat) (fo fk fv fr fc fb fp ft : Nat → Int32) (x : Int32) (hn : n ≤ 60) : Met l yX0_lag wsX0_lag ({ frames := 2, cells := 0, slots := 0, locals := 60 } : Room) (va_Pc [.ref (ad 0), .int x] (pr_r dC dI cI cZ (w0 cI cZ ad (n, sc, st, en, du, fo, fk, fv, fr, fc, fb, fp, ft)))) (vp_Si (fun r : Int32 => (∃ g j, gp x g ∧ ix fo n (fp g) j ∧ r = nI (n - j)) ∨ ((∀ g, ¬ gp x g) ∧ r = -1))) 0 0 (fun _ => False) := by
  refine Met.ofW (cc := cX0_lag) (maxL := 2) (ret := (some .int)) (by decide) rfl ?_
  intro p e s m args below meth c s₁ B hml hv
  obtain ⟨rfl, hP, hK⟩ := hv
  have hx := B.exec
  have hb := B.bytes
  have hr := B.returns
  have hts := atoms_spec (ws := wsX0_lag) B.pre
  have hown : s.vm.findClass RX0 = some m.cls := findClass_of_methodNamed B.named
  have hlocks := B.notSynchronized
  have h00 : ∀ w ∈ wsX00, w.before _ s = true := fun w h => hts w (List.mem_cons_of_mem _ (List.mem_append_right _ h))
  have L1 := hts (.fieldLink RX0 36 "SegmentLog" "positions" "[I") (List.mem_of_getElem? (i := 1) rfl)
  have hl := lv_entry ([.ref (ad 0), .int x]) (n := 2) (Nat.le_of_ble_eq_true rfl)
  rw [lg_entry_eq]
  generalize (lg_sl ([.ref (ad 0), .int x]) ++ List.replicate (2 - (lg_sl ([.ref (ad 0), .int x])).length) Slot.unset).toArray = ls at hl ⊢
  have hl : lv_has ls 2 [(0, .ref (ad 0)), (1, .int x)] := hl
  refine lv_aload_n hx hb dX0_lag_0 rfl (lv_at hl 0 rfl) ?_
  refine lv_iload_n hx hb dX0_lag_1 rfl (lv_at hl 1 rfl) ?_
  refine vp_callSi (W.runV (As := [.int x]) (rest := []) ⟨hx, hb, hml, hown, hts⟩ (c0_isGroup l dC dI cI cZ ad n sc st en du fo fk fv fr fc fb fp ft x ) (cwV 1 hts gX0_lag_X0_isGroup rfl rfl rfl (by decide +kernel) ⟨Nat.le_of_ble_eq_true rfl, Nat.le_of_ble_eq_true rfl⟩) ⟨bl_r, va_recv hK hP (ci := 0) (q0 := 0) rfl rfl, fun U hU hW => ⟨rfl, by rw [hU]; exact hP, va_K.moved hW.alike hK⟩⟩ rfl rfl hl.1 rfl (lv_room (Nat.le_of_ble_eq_true rfl)) dX0_lag_2 ⟨by decide, by decide⟩) (fun r1 hq => ?_)
  rcases hq with ⟨g, hg, rfl⟩ | ⟨hg, rfl⟩
  · skip
    refine lv_if_eq (tgt := 21) hx hb dX0_lag_5 (by decide) (fun c1 => ?_) (fun c1 => ?_)
    · skip
      exact absurd c1 (by decide)
    · skip
      obtain ⟨hg4, rfl⟩ := hg
      refine lv_aload_n hx hb dX0_lag_8 rfl (lv_at hl 0 rfl) ?_
      refine lv_aload_n hx hb dX0_lag_9 rfl (lv_at hl 0 rfl) ?_
      refine va_get (D := (dC, dI)) (ci := 0) (v := .ref (ad 7)) (C := RX0) (T := TX0) (N := 13) hx hb h00 (fun _ h => h) hown hK hP 0 rfl rfl 8 (by decide) L1 (fun _ h9 => h9) rfl dX0_lag_10 ?_
      refine lv_iload_n hx hb dX0_lag_13 rfl (lv_at hl 1 rfl) ?_
      refine qa_iald (i := g) hx hb hK hP 7 0 rfl rfl (by omega) (by decide) dX0_lag_14 ?_
      refine vp_callSi (W.runV (As := [.int (fp g)]) (rest := []) ⟨hx, hb, hml, hown, hts⟩ (c0_recordsFrom l dC dI cI cZ ad n sc st en du fo fk fv fr fc fb fp ft (fp g) hn) (cwV 1 hts gX0_lag_X0_recordsFrom rfl rfl rfl (by decide +kernel) ⟨Nat.le_of_ble_eq_true rfl, Nat.le_of_ble_eq_true rfl⟩) ⟨bl_r, va_recv hK hP (ci := 0) (q0 := 0) rfl rfl, fun U hU hW => ⟨rfl, by rw [hU]; exact hP, va_K.moved hW.alike hK⟩⟩ rfl rfl hl.1 rfl (lv_room (Nat.le_of_ble_eq_true rfl)) dX0_lag_15 ⟨by decide, by decide⟩) (fun r2 hq2 => ?_)
      obtain ⟨j, hj, rfl⟩ := hq2
      refine lv_goto (tgt := 22) hx hb dX0_lag_18 (by decide) ?_
      exact W.iret (v := nI (n - j)) hx hb hr (fun t ht hW => ⟨_, rfl, Or.inl ⟨g, j, ⟨hg4, rfl⟩, hj, rfl⟩, ht⟩) (fun _ h => by cases h) dX0_lag_22
  · skip
    refine lv_if_eq (tgt := 21) hx hb dX0_lag_5 (by decide) (fun c1 => ?_) (fun c1 => ?_)
    · skip
      refine lv_iconst (v := (-1)) hx hb dX0_lag_21 (by decide) ?_
      exact W.iret (v := (-1)) hx hb hr (fun t ht hW => ⟨_, rfl, Or.inr ⟨hg, rfl⟩, ht⟩) (fun _ h => by cases h) dX0_lag_22
    · skip
      exact absurd rfl c1
set_option maxHeartbeats 4000000 in
set_option maxRecDepth 100000 in
theorem c0_base (l : Launch) (dC : Nat → ClassId) (dI : Nat → Nat → Nat) (cI cZ : ClassId) (ad : Nat → Nat) (n sc st en du : Nat) (fo fk fv fr fc fb fp ft : Nat → Int32) (x : Int32) (hs : sc ≤ 513) : Met l yX0_base wsX0_base ({ frames := 0, cells := 0, slots := 0, locals := 0 } : Room) (va_Pc [.ref (ad 0), .int x] (pr_r dC dI cI cZ (w0 cI cZ ad (n, sc, st, en, du, fo, fk, fv, fr, fc, fb, fp, ft)))) (vp_Si (fun r : Int32 => (∃ k, k < sc ∧ x = nI k ∧ r = fb k) ∨ ((∀ k, k < sc → ¬ x = nI k) ∧ r = -1))) 0 0 (fun _ => False) := by
  refine Met.ofW (cc := cX0_base) (maxL := 2) (ret := (some .int)) (by decide) rfl ?_
  intro p e s m args below meth c s₁ B hml hv
  obtain ⟨rfl, hP, hK⟩ := hv
  have hx := B.exec
  have hb := B.bytes
  have hr := B.returns
  have hts := atoms_spec (ws := wsX0_base) B.pre
  have hown : s.vm.findClass RX0 = some m.cls := findClass_of_methodNamed B.named
  have hlocks := B.notSynchronized
  have h00 : ∀ w ∈ wsX00, w.before _ s = true := fun w h => hts w (List.mem_cons_of_mem _ (List.mem_append_right _ h))
  have L1 := hts (.fieldLink RX0 33 "SegmentLog" "segmentCount" "I") (List.mem_of_getElem? (i := 1) rfl)
  have L2 := hts (.fieldLink RX0 30 "SegmentLog" "bases" "[I") (List.mem_of_getElem? (i := 2) rfl)
  have hl := lv_entry ([.ref (ad 0), .int x]) (n := 2) (Nat.le_of_ble_eq_true rfl)
  rw [lg_entry_eq]
  generalize (lg_sl ([.ref (ad 0), .int x]) ++ List.replicate (2 - (lg_sl ([.ref (ad 0), .int x])).length) Slot.unset).toArray = ls at hl ⊢
  have hl : lv_has ls 2 [(0, .ref (ad 0)), (1, .int x)] := hl
  refine lv_iload_n hx hb dX0_base_0 rfl (lv_at hl 1 rfl) ?_
  refine lv_if_lt (tgt := 21) hx hb dX0_base_1 (by decide) (fun c1 => ?_) (fun c1 => ?_)
  · skip
    refine lv_iconst (v := (-1)) hx hb dX0_base_21 (by decide) ?_
    exact W.iret (v := (-1)) hx hb hr (fun t ht hW => ⟨_, rfl, Or.inr ⟨fun k hk e1 => by subst e1; exact nI_pos (by omega) c1, rfl⟩, ht⟩) (fun _ h => by cases h) dX0_base_22
  · skip
    obtain ⟨k, hk, rfl⟩ := pk_ge0 c1
    refine lv_iload_n hx hb dX0_base_4 rfl (lv_at hl 1 rfl) ?_
    refine lv_aload_n hx hb dX0_base_5 rfl (lv_at hl 0 rfl) ?_
    refine va_get (D := (dC, dI)) (ci := 0) (v := .int (nI sc)) (C := RX0) (T := TX0) (N := 13) hx hb h00 (fun _ h => h) hown hK hP 0 rfl rfl 7 (by decide) L1 (fun _ h9 => h9) rfl dX0_base_6 ?_
    refine lv_icmp_ge (tgt := 21) hx hb dX0_base_9 (by decide) (fun c2 => ?_) (fun c2 => ?_)
    · skip
      refine lv_iconst (v := (-1)) hx hb dX0_base_21 (by decide) ?_
      exact W.iret (v := (-1)) hx hb hr (fun t ht hW => ⟨_, rfl, Or.inr ⟨fun k2 hk2 e1 => by have := nI_inj hk (by omega) e1; have := (nI_leI (by omega) hk).mp c2; omega, rfl⟩, ht⟩) (fun _ h => by cases h) dX0_base_22
    · skip
      have hc : k < sc := q_nle (by omega) (by omega) c2
      refine lv_aload_n hx hb dX0_base_12 rfl (lv_at hl 0 rfl) ?_
      refine va_get (D := (dC, dI)) (ci := 0) (v := .ref (ad 6)) (C := RX0) (T := TX0) (N := 13) hx hb h00 (fun _ h => h) hown hK hP 0 rfl rfl 6 (by decide) L2 (fun _ h9 => h9) rfl dX0_base_13 ?_
      refine lv_iload_n hx hb dX0_base_16 rfl (lv_at hl 1 rfl) ?_
      refine qa_iald (i := k) hx hb hK hP 6 0 rfl rfl (by omega) (by decide) dX0_base_17 ?_
      refine lv_goto (tgt := 22) hx hb dX0_base_18 (by decide) ?_
      exact W.iret (v := fb k) hx hb hr (fun t ht hW => ⟨_, rfl, Or.inl ⟨k, hc, rfl, rfl⟩, ht⟩) (fun _ h => by cases h) dX0_base_22
set_option maxHeartbeats 4000000 in
set_option maxRecDepth 100000 in
theorem c0_latest (l : Launch) (dC : Nat → ClassId) (dI : Nat → Nat → Nat) (cI cZ : ClassId) (ad : Nat → Nat) (n sc st en du : Nat) (fo fk fv fr fc fb fp ft : Nat → Int32) (x : Int32) (hn : n ≤ 60) : Met l yX0_latest wsX0_latest ({ frames := 0, cells := 0, slots := 0, locals := 0 } : Room) (va_Pc [.ref (ad 0), .int x] (pr_r dC dI cI cZ (w0 cI cZ ad (n, sc, st, en, du, fo, fk, fv, fr, fc, fb, fp, ft)))) (vp_Si (fun r : Int32 => (∃ i, i < n ∧ fk i = x ∧ (∀ q, i < q → q < n → ¬ fk q = x) ∧ ((fr i = 0 ∧ r = fo i) ∨ (¬ fr i = 0 ∧ r = -1))) ∨ ((∀ q, q < n → ¬ fk q = x) ∧ r = -1))) 0 0 (fun _ => False) := by
  refine Met.ofW (cc := cX0_latest) (maxL := 3) (ret := (some .int)) (by decide) rfl ?_
  intro p e s m args below meth c s₁ B hml hv
  obtain ⟨rfl, hP, hK⟩ := hv
  have hx := B.exec
  have hb := B.bytes
  have hr := B.returns
  have hts := atoms_spec (ws := wsX0_latest) B.pre
  have hown : s.vm.findClass RX0 = some m.cls := findClass_of_methodNamed B.named
  have hlocks := B.notSynchronized
  have h00 : ∀ w ∈ wsX00, w.before _ s = true := fun w h => hts w (List.mem_cons_of_mem _ (List.mem_append_right _ h))
  have L1 := hts (.fieldLink RX0 26 "SegmentLog" "recordCount" "I") (List.mem_of_getElem? (i := 1) rfl)
  have L2 := hts (.fieldLink RX0 13 "SegmentLog" "keys" "[I") (List.mem_of_getElem? (i := 2) rfl)
  have L3 := hts (.fieldLink RX0 19 "SegmentLog" "removals" "[Z") (List.mem_of_getElem? (i := 3) rfl)
  have L4 := hts (.fieldLink RX0 9 "SegmentLog" "offsets" "[I") (List.mem_of_getElem? (i := 4) rfl)
  have hl := lv_entry ([.ref (ad 0), .int x]) (n := 3) (Nat.le_of_ble_eq_true rfl)
  rw [lg_entry_eq]
  generalize (lg_sl ([.ref (ad 0), .int x]) ++ List.replicate (3 - (lg_sl ([.ref (ad 0), .int x])).length) Slot.unset).toArray = ls at hl ⊢
  have hl : lv_has ls 3 [(0, .ref (ad 0)), (1, .int x)] := hl
  refine lv_aload_n hx hb dX0_latest_0 rfl (lv_at hl 0 rfl) ?_
  refine va_get (D := (dC, dI)) (ci := 0) (v := .int (nI n)) (C := RX0) (T := TX0) (N := 13) hx hb h00 (fun _ h => h) hown hK hP 0 rfl rfl 5 (by decide) L1 (fun _ h9 => h9) rfl dX0_latest_1 ?_
  refine lv_iconst (v := 1) hx hb dX0_latest_4 (by decide) ?_
  refine lv_isub hx hb dX0_latest_5 ?_
  refine lv_istore_n (lv' := [(2, .int (nI n - 1)), (0, .ref (ad 0)), (1, .int x)]) hx hb dX0_latest_6 rfl hl (by decide) rfl (fun ls hl => ?_)
  have loop : ∀ (k : Nat) (ls : Array Slot), k ≤ n → (∀ q, k ≤ q → q < n → ¬ fk q = x) → lv_has ls 3 [(2, .int (nI k - 1)), (0, .ref (ad 0)), (1, .int x)] → W p l e (headSpec wsX0_latest ({ frames := 0, cells := 0, slots := 0, locals := 0 } : Room)).room s m ([.ref (ad 0), .int x] : List Value).toArray below meth c s.heap [] 0 0 (MQ below (vp_Si (fun r : Int32 => (∃ i, i < n ∧ fk i = x ∧ (∀ q, i < q → q < n → ¬ fk q = x) ∧ ((fr i = 0 ∧ r = fo i) ∨ (¬ fr i = 0 ∧ r = -1))) ∨ ((∀ q, q < n → ¬ fk q = x) ∧ r = -1))) ([.ref (ad 0), .int x] : List Value).toArray s 0 0 (fun _ => False)) (F0 m 7 ls []) := by
    intro k
    induction k with
    | zero =>
      intro ls h1 h2 hl
      refine lv_iload_n hx hb dX0_latest_7 rfl (lv_at hl 0 rfl) ?_
      refine lv_if_lt (tgt := 47) hx hb dX0_latest_8 (by decide) (fun c1 => ?_) (fun c1 => ?_)
      · skip
        refine lv_iconst (v := (-1)) hx hb dX0_latest_47 (by decide) ?_
        exact W.iret (v := (-1)) hx hb hr (fun t ht hW => ⟨_, rfl, Or.inr ⟨fun q hq => h2 q (Nat.zero_le q) hq, rfl⟩, ht⟩) (fun _ h => by cases h) dX0_latest_48
      · skip
        exact absurd (by decide) c1
    | succ k ih =>
      intro ls h1 h2 hl
      rw [nI_pred] at hl
      refine lv_iload_n hx hb dX0_latest_7 rfl (lv_at hl 0 rfl) ?_
      refine lv_if_lt (tgt := 47) hx hb dX0_latest_8 (by decide) (fun c1 => ?_) (fun c1 => ?_)
      · skip
        exact absurd c1 (nI_pos (by omega))
      · skip
        refine lv_aload_n hx hb dX0_latest_11 rfl (lv_at hl 1 rfl) ?_
        refine va_get (D := (dC, dI)) (ci := 0) (v := .ref (ad 2)) (C := RX0) (T := TX0) (N := 13) hx hb h00 (fun _ h => h) hown hK hP 0 rfl rfl 1 (by decide) L2 (fun _ h9 => h9) rfl dX0_latest_12 ?_
        refine lv_iload_n hx hb dX0_latest_15 rfl (lv_at hl 0 rfl) ?_
        refine qa_iald (i := k) hx hb hK hP 2 0 rfl rfl (by omega) (by decide) dX0_latest_16 ?_
        refine lv_iload_n hx hb dX0_latest_17 rfl (lv_at hl 2 rfl) ?_
        refine lv_icmp_ne (tgt := 41) hx hb dX0_latest_18 (by decide) (fun c2 => ?_) (fun c2 => ?_)
        · skip
          refine lv_iinc (v := nI k - 1) (lv' := [(2, .int (nI k - 1)), (0, .ref (ad 0)), (1, .int x)]) hx hb dX0_latest_41 hl (k := 0) rfl (qa_decm _) (by decide) rfl (fun ls hl => ?_)
          refine lv_goto (tgt := 7) hx hb dX0_latest_44 (by decide) ?_
          refine ih ls (by omega) (fun q q1 q2 => ?_) (lv_sub hl [0, 1, 2] rfl)
          rcases Nat.lt_or_ge k q with h | h
          · exact h2 q (by omega) q2
          · have : q = k := by omega
            subst this; exact c2
        · skip
          refine lv_aload_n hx hb dX0_latest_21 rfl (lv_at hl 1 rfl) ?_
          refine va_get (D := (dC, dI)) (ci := 0) (v := .ref (ad 4)) (C := RX0) (T := TX0) (N := 13) hx hb h00 (fun _ h => h) hown hK hP 0 rfl rfl 3 (by decide) L3 (fun _ h9 => h9) rfl dX0_latest_22 ?_
          refine lv_iload_n hx hb dX0_latest_25 rfl (lv_at hl 0 rfl) ?_
          refine qa_zald (i := k) hx hb hK hP 4 1 rfl rfl (by omega) (by decide) dX0_latest_26 ?_
          refine lv_if_eq (tgt := 34) hx hb dX0_latest_27 (by decide) (fun c3 => ?_) (fun c3 => ?_)
          · skip
            refine lv_aload_n hx hb dX0_latest_34 rfl (lv_at hl 1 rfl) ?_
            refine va_get (D := (dC, dI)) (ci := 0) (v := .ref (ad 1)) (C := RX0) (T := TX0) (N := 13) hx hb h00 (fun _ h => h) hown hK hP 0 rfl rfl 0 (by decide) L4 (fun _ h9 => h9) rfl dX0_latest_35 ?_
            refine lv_iload_n hx hb dX0_latest_38 rfl (lv_at hl 0 rfl) ?_
            refine qa_iald (i := k) hx hb hK hP 1 0 rfl rfl (by omega) (by decide) dX0_latest_39 ?_
            exact W.iret (v := fo k) hx hb hr (fun t ht hW => ⟨_, rfl, Or.inl ⟨k, by omega, c2, fun q q1 q2 => h2 q (by omega) q2, Or.inl ⟨c3, rfl⟩⟩, ht⟩) (fun _ h => by cases h) dX0_latest_40
          · skip
            refine lv_iconst (v := (-1)) hx hb dX0_latest_30 (by decide) ?_
            refine lv_goto (tgt := 40) hx hb dX0_latest_31 (by decide) ?_
            exact W.iret (v := (-1)) hx hb hr (fun t ht hW => ⟨_, rfl, Or.inl ⟨k, by omega, c2, fun q q1 q2 => h2 q (by omega) q2, Or.inr ⟨c3, rfl⟩⟩, ht⟩) (fun _ h => by cases h) dX0_latest_40
  exact loop n ls (Nat.le_refl n) (fun q h1 h2 => by omega) (lv_sub hl [0, 1, 2] rfl)
