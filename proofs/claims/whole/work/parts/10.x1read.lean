/-- how many of the places a .. b - 1 of a row of booleans hold true -/
def cn (f : Nat → Int32) (a b : Nat) : Nat := ((List.range b).filter (fun k => decide (a ≤ k) && !decide (f k = 0))).length
theorem cn_s (f : Nat → Int32) (a b : Nat) : cn f a (b + 1) = cn f a b + (if a ≤ b ∧ ¬ f b = 0 then 1 else 0) := by
  unfold cn
  rw [List.range_succ, List.filter_append, List.length_append]
  congr 1
  by_cases h1 : a ≤ b <;> by_cases h2 : f b = 0 <;> simp [h1, h2]
theorem cn_0 (f : Nat → Int32) {a b : Nat} (h : b ≤ a) : cn f a b = 0 := by
  unfold cn
  rw [List.length_eq_zero_iff, List.filter_eq_nil_iff]
  intro k hk
  have := List.mem_range.mp hk
  simp; omega
theorem cn_t {f : Nat → Int32} {a b : Nat} (h : a ≤ b) (h2 : ¬ f b = 0) : cn f a (b + 1) = cn f a b + 1 := by rw [cn_s, if_pos ⟨h, h2⟩]
theorem cn_f {f : Nat → Int32} {a b : Nat} (h2 : f b = 0) : cn f a (b + 1) = cn f a b := by rw [cn_s, if_neg (fun h => h.2 h2)]; rfl
theorem cn_le (f : Nat → Int32) (a b : Nat) : cn f a b ≤ b := Nat.le_trans (List.length_filter_le _ _) (by simp)
theorem cn_add (f : Nat → Int32) {a b c : Nat} (h1 : a ≤ b) (h2 : b ≤ c) : cn f a b + cn f b c = cn f a c := by
  induction c with
  | zero => have e1 : b = 0 := by omega
            have e2 : a = 0 := by omega
            subst e1; subst e2; rw [cn_0 f (Nat.le_refl 0)]
  | succ c ih =>
    rcases Nat.lt_or_ge c b with h | h
    · have : b = c + 1 := by omega
      subst this; rw [cn_0 f (Nat.le_refl _)]; rfl
    · rw [cn_s, cn_s f a c, ← ih h]
      by_cases e : f c = 0
      · rw [if_neg (fun h => h.2 e), if_neg (fun h => h.2 e)]; rfl
      · rw [if_pos ⟨h, e⟩, if_pos ⟨by omega, e⟩]; omega
theorem cn_congr {f g : Nat → Int32} {a b : Nat} (h : ∀ k, a ≤ k → k < b → (f k = 0 ↔ g k = 0)) : cn f a b = cn g a b := by
  induction b with
  | zero => rw [cn_0 f (Nat.zero_le a), cn_0 g (Nat.zero_le a)]
  | succ b ih =>
    rw [cn_s, cn_s, ih (fun k h1 h2 => h k h1 (by omega))]
    congr 1
    by_cases h1 : a ≤ b
    · have := h b h1 (by omega)
      by_cases e : f b = 0
      · rw [if_neg (fun h => h.2 e), if_neg (fun h => h.2 (this.mp e))]
      · rw [if_pos ⟨h1, e⟩, if_pos ⟨h1, fun e2 => e (this.mpr e2)⟩]
    · rw [if_neg (fun h => h1 h.1), if_neg (fun h => h1 h.1)]
theorem q_max0 (a : Nat) (ha : a < 2 ^ 31) : (if nI a < nI 0 then nI 0 else nI a) = nI a := if_neg (fun h => by have := q_lt ha (by omega) h; omega)
theorem q_sub5 {a b : Nat} (ha : a < 2 ^ 30) (hb : b < 2 ^ 30) : nI a = nI b - nI 5 ↔ b = a + 5 := by
  constructor
  · intro h
    have h2 : nI a + nI 5 = nI b := by rw [h]; exact Int32.sub_add_cancel _ _
    rw [nI_add] at h2
    exact (nI_inj (by omega) (by omega) h2).symm
  · intro h
    subst h
    rw [← nI_add, Int32.add_sub_cancel]
/-- what max(x, START) is: the least place from START on that isn't below x -/
theorem q_from {x : Int32} {st : Nat} (hs : st < 2 ^ 30) : ∃ a : Nat, a < 2 ^ 31 ∧ (if x < nI st then nI st else x) = nI a ∧ ∀ k, k < 2 ^ 31 → (a ≤ k ↔ st ≤ k ∧ ¬ nI k < x) := by
  by_cases h : x < nI st
  · refine ⟨st, by omega, if_pos h, fun k hk => ⟨fun h1 => ⟨h1, fun h2 => ?_⟩, fun h1 => h1.1⟩⟩
    have := q_lt hk (by omega) (Int32.lt_trans h2 h)
    omega
  · have h0 : ¬ x < 0 := fun h1 => h (by
      rcases Nat.eq_zero_or_pos st with e | e
      · subst e; exact h1
      · exact Int32.lt_trans h1 (by have := nI_lt e (by omega : st < 2 ^ 31); rw [nI_0] at this; exact this))
    obtain ⟨a, ha, rfl⟩ := nI_of h0
    refine ⟨a, ha, if_neg h, fun k hk => ?_⟩
    have h3 := q_nlt ha (by omega) h
    constructor
    · exact fun h1 => ⟨by omega, fun h2 => by have := q_lt hk ha h2; omega⟩
    · exact fun h1 => q_nlt hk ha h1.2
set_option maxHeartbeats 4000000 in
set_option maxRecDepth 100000 in
theorem c1_thrown (l : Launch) (dC : Nat → ClassId) (dI : Nat → Nat → Nat) (cI cZ : ClassId) (bd : Nat → Nat) (sg st en du th : Nat) (yk yv yr yt yl yb yp yg : Nat → Int32)  : Met l yX1_thrown wsX1_thrown ({ frames := 0, cells := 0, slots := 0, locals := 0 } : Room) (va_Pc [.ref (bd 0)] (pr_r dC dI cI cZ (w1 cI cZ bd (sg, st, en, du, th, yk, yv, yr, yt, yl, yb, yp, yg)))) (vp_Si (fun r : Int32 => r = nI th)) 0 0 (fun _ => False) := by
  refine Met.ofW (cc := cX1_thrown) (maxL := 1) (ret := (some .int)) (by decide) rfl ?_
  intro p e s m args below meth c s₁ B hml hv
  obtain ⟨rfl, hP, hK⟩ := hv
  have hx := B.exec
  have hb := B.bytes
  have hr := B.returns
  have hts := atoms_spec (ws := wsX1_thrown) B.pre
  have hown : s.vm.findClass RX1 = some m.cls := findClass_of_methodNamed B.named
  have hlocks := B.notSynchronized
  have h00 : ∀ w ∈ wsX10, w.before _ s = true := fun w h => hts w (List.mem_cons_of_mem _ (List.mem_append_right _ h))
  have L1 := hts (.fieldLink RX1 39 "SegmentLogModel" "thrown" "I") (List.mem_of_getElem? (i := 1) rfl)
  have hl := lv_entry ([.ref (bd 0)]) (n := 1) (Nat.le_of_ble_eq_true rfl)
  rw [lg_entry_eq]
  generalize (lg_sl ([.ref (bd 0)]) ++ List.replicate (1 - (lg_sl ([.ref (bd 0)])).length) Slot.unset).toArray = ls at hl ⊢
  have hl : lv_has ls 1 [(0, .ref (bd 0))] := hl
  refine lv_aload_n hx hb dX1_thrown_0 rfl (lv_at hl 0 rfl) ?_
  refine va_get (D := (dC, dI)) (ci := 1) (v := .int (nI th)) (C := RX1) (T := TX1) (N := 13) hx hb h00 (fun _ h => h) hown hK hP 0 rfl rfl 10 (by decide) L1 (fun _ h9 => h9) rfl dX1_thrown_1 ?_
  exact W.iret (v := nI th) hx hb hr (fun t ht hW => ⟨_, rfl, rfl, ht⟩) (fun _ h => by cases h) dX1_thrown_4
set_option maxHeartbeats 4000000 in
set_option maxRecDepth 100000 in
theorem c1_segments (l : Launch) (dC : Nat → ClassId) (dI : Nat → Nat → Nat) (cI cZ : ClassId) (bd : Nat → Nat) (sg st en du th : Nat) (yk yv yr yt yl yb yp yg : Nat → Int32)  : Met l yX1_segments wsX1_segments ({ frames := 0, cells := 0, slots := 0, locals := 0 } : Room) (va_Pc [.ref (bd 0)] (pr_r dC dI cI cZ (w1 cI cZ bd (sg, st, en, du, th, yk, yv, yr, yt, yl, yb, yp, yg)))) (vp_Si (fun r : Int32 => r = nI sg)) 0 0 (fun _ => False) := by
  refine Met.ofW (cc := cX1_segments) (maxL := 1) (ret := (some .int)) (by decide) rfl ?_
  intro p e s m args below meth c s₁ B hml hv
  obtain ⟨rfl, hP, hK⟩ := hv
  have hx := B.exec
  have hb := B.bytes
  have hr := B.returns
  have hts := atoms_spec (ws := wsX1_segments) B.pre
  have hown : s.vm.findClass RX1 = some m.cls := findClass_of_methodNamed B.named
  have hlocks := B.notSynchronized
  have h00 : ∀ w ∈ wsX10, w.before _ s = true := fun w h => hts w (List.mem_cons_of_mem _ (List.mem_append_right _ h))
  have L1 := hts (.fieldLink RX1 29 "SegmentLogModel" "segments" "I") (List.mem_of_getElem? (i := 1) rfl)
  have hl := lv_entry ([.ref (bd 0)]) (n := 1) (Nat.le_of_ble_eq_true rfl)
  rw [lg_entry_eq]
  generalize (lg_sl ([.ref (bd 0)]) ++ List.replicate (1 - (lg_sl ([.ref (bd 0)])).length) Slot.unset).toArray = ls at hl ⊢
  have hl : lv_has ls 1 [(0, .ref (bd 0))] := hl
  refine lv_aload_n hx hb dX1_segments_0 rfl (lv_at hl 0 rfl) ?_
  refine va_get (D := (dC, dI)) (ci := 1) (v := .int (nI sg)) (C := RX1) (T := TX1) (N := 13) hx hb h00 (fun _ h => h) hown hK hP 0 rfl rfl 6 (by decide) L1 (fun _ h9 => h9) rfl dX1_segments_1 ?_
  exact W.iret (v := nI sg) hx hb hr (fun t ht hW => ⟨_, rfl, rfl, ht⟩) (fun _ h => by cases h) dX1_segments_4
set_option maxHeartbeats 4000000 in
set_option maxRecDepth 100000 in
theorem c1_start (l : Launch) (dC : Nat → ClassId) (dI : Nat → Nat → Nat) (cI cZ : ClassId) (bd : Nat → Nat) (sg st en du th : Nat) (yk yv yr yt yl yb yp yg : Nat → Int32)  : Met l yX1_start wsX1_start ({ frames := 0, cells := 0, slots := 0, locals := 0 } : Room) (va_Pc [.ref (bd 0)] (pr_r dC dI cI cZ (w1 cI cZ bd (sg, st, en, du, th, yk, yv, yr, yt, yl, yb, yp, yg)))) (vp_Si (fun r : Int32 => r = nI st)) 0 0 (fun _ => False) := by
  refine Met.ofW (cc := cX1_start) (maxL := 1) (ret := (some .int)) (by decide) rfl ?_
  intro p e s m args below meth c s₁ B hml hv
  obtain ⟨rfl, hP, hK⟩ := hv
  have hx := B.exec
  have hb := B.bytes
  have hr := B.returns
  have hts := atoms_spec (ws := wsX1_start) B.pre
  have hown : s.vm.findClass RX1 = some m.cls := findClass_of_methodNamed B.named
  have hlocks := B.notSynchronized
  have h00 : ∀ w ∈ wsX10, w.before _ s = true := fun w h => hts w (List.mem_cons_of_mem _ (List.mem_append_right _ h))
  have L1 := hts (.fieldLink RX1 51 "SegmentLogModel" "start" "I") (List.mem_of_getElem? (i := 1) rfl)
  have hl := lv_entry ([.ref (bd 0)]) (n := 1) (Nat.le_of_ble_eq_true rfl)
  rw [lg_entry_eq]
  generalize (lg_sl ([.ref (bd 0)]) ++ List.replicate (1 - (lg_sl ([.ref (bd 0)])).length) Slot.unset).toArray = ls at hl ⊢
  have hl : lv_has ls 1 [(0, .ref (bd 0))] := hl
  refine lv_aload_n hx hb dX1_start_0 rfl (lv_at hl 0 rfl) ?_
  refine va_get (D := (dC, dI)) (ci := 1) (v := .int (nI st)) (C := RX1) (T := TX1) (N := 13) hx hb h00 (fun _ h => h) hown hK hP 0 rfl rfl 7 (by decide) L1 (fun _ h9 => h9) rfl dX1_start_1 ?_
  exact W.iret (v := nI st) hx hb hr (fun t ht hW => ⟨_, rfl, rfl, ht⟩) (fun _ h => by cases h) dX1_start_4
set_option maxHeartbeats 4000000 in
set_option maxRecDepth 100000 in
theorem c1_end (l : Launch) (dC : Nat → ClassId) (dI : Nat → Nat → Nat) (cI cZ : ClassId) (bd : Nat → Nat) (sg st en du th : Nat) (yk yv yr yt yl yb yp yg : Nat → Int32)  : Met l yX1_end wsX1_end ({ frames := 0, cells := 0, slots := 0, locals := 0 } : Room) (va_Pc [.ref (bd 0)] (pr_r dC dI cI cZ (w1 cI cZ bd (sg, st, en, du, th, yk, yv, yr, yt, yl, yb, yp, yg)))) (vp_Si (fun r : Int32 => r = nI en)) 0 0 (fun _ => False) := by
  refine Met.ofW (cc := cX1_end) (maxL := 1) (ret := (some .int)) (by decide) rfl ?_
  intro p e s m args below meth c s₁ B hml hv
  obtain ⟨rfl, hP, hK⟩ := hv
  have hx := B.exec
  have hb := B.bytes
  have hr := B.returns
  have hts := atoms_spec (ws := wsX1_end) B.pre
  have hown : s.vm.findClass RX1 = some m.cls := findClass_of_methodNamed B.named
  have hlocks := B.notSynchronized
  have h00 : ∀ w ∈ wsX10, w.before _ s = true := fun w h => hts w (List.mem_cons_of_mem _ (List.mem_append_right _ h))
  have L1 := hts (.fieldLink RX1 48 "SegmentLogModel" "end" "I") (List.mem_of_getElem? (i := 1) rfl)
  have hl := lv_entry ([.ref (bd 0)]) (n := 1) (Nat.le_of_ble_eq_true rfl)
  rw [lg_entry_eq]
  generalize (lg_sl ([.ref (bd 0)]) ++ List.replicate (1 - (lg_sl ([.ref (bd 0)])).length) Slot.unset).toArray = ls at hl ⊢
  have hl : lv_has ls 1 [(0, .ref (bd 0))] := hl
  refine lv_aload_n hx hb dX1_end_0 rfl (lv_at hl 0 rfl) ?_
  refine va_get (D := (dC, dI)) (ci := 1) (v := .int (nI en)) (C := RX1) (T := TX1) (N := 13) hx hb h00 (fun _ h => h) hown hK hP 0 rfl rfl 8 (by decide) L1 (fun _ h9 => h9) rfl dX1_end_1 ?_
  exact W.iret (v := nI en) hx hb hr (fun t ht hW => ⟨_, rfl, rfl, ht⟩) (fun _ h => by cases h) dX1_end_4
set_option maxHeartbeats 4000000 in
set_option maxRecDepth 100000 in
theorem c1_durable (l : Launch) (dC : Nat → ClassId) (dI : Nat → Nat → Nat) (cI cZ : ClassId) (bd : Nat → Nat) (sg st en du th : Nat) (yk yv yr yt yl yb yp yg : Nat → Int32)  : Met l yX1_durable wsX1_durable ({ frames := 0, cells := 0, slots := 0, locals := 0 } : Room) (va_Pc [.ref (bd 0)] (pr_r dC dI cI cZ (w1 cI cZ bd (sg, st, en, du, th, yk, yv, yr, yt, yl, yb, yp, yg)))) (vp_Si (fun r : Int32 => r = nI du)) 0 0 (fun _ => False) := by
  refine Met.ofW (cc := cX1_durable) (maxL := 1) (ret := (some .int)) (by decide) rfl ?_
  intro p e s m args below meth c s₁ B hml hv
  obtain ⟨rfl, hP, hK⟩ := hv
  have hx := B.exec
  have hb := B.bytes
  have hr := B.returns
  have hts := atoms_spec (ws := wsX1_durable) B.pre
  have hown : s.vm.findClass RX1 = some m.cls := findClass_of_methodNamed B.named
  have hlocks := B.notSynchronized
  have h00 : ∀ w ∈ wsX10, w.before _ s = true := fun w h => hts w (List.mem_cons_of_mem _ (List.mem_append_right _ h))
  have L1 := hts (.fieldLink RX1 64 "SegmentLogModel" "durable" "I") (List.mem_of_getElem? (i := 1) rfl)
  have hl := lv_entry ([.ref (bd 0)]) (n := 1) (Nat.le_of_ble_eq_true rfl)
  rw [lg_entry_eq]
  generalize (lg_sl ([.ref (bd 0)]) ++ List.replicate (1 - (lg_sl ([.ref (bd 0)])).length) Slot.unset).toArray = ls at hl ⊢
  have hl : lv_has ls 1 [(0, .ref (bd 0))] := hl
  refine lv_aload_n hx hb dX1_durable_0 rfl (lv_at hl 0 rfl) ?_
  refine va_get (D := (dC, dI)) (ci := 1) (v := .int (nI du)) (C := RX1) (T := TX1) (N := 13) hx hb h00 (fun _ h => h) hown hK hP 0 rfl rfl 9 (by decide) L1 (fun _ h9 => h9) rfl dX1_durable_1 ?_
  exact W.iret (v := nI du) hx hb hr (fun t ht hW => ⟨_, rfl, rfl, ht⟩) (fun _ h => by cases h) dX1_durable_4
set_option maxHeartbeats 4000000 in
set_option maxRecDepth 100000 in
theorem c1_count (l : Launch) (dC : Nat → ClassId) (dI : Nat → Nat → Nat) (cI cZ : ClassId) (bd : Nat → Nat) (sg st en du th : Nat) (yk yv yr yt yl yb yp yg : Nat → Int32) (a b : Nat) (ha : a ≤ 4200) (hb0 : b ≤ 4200) : Met l yX1_count wsX1_count ({ frames := 1, cells := 0, slots := 0, locals := 30 } : Room) (va_Pc [.ref (bd 0), .int (nI a), .int (nI b)] (pr_r dC dI cI cZ (w1 cI cZ bd (sg, st, en, du, th, yk, yv, yr, yt, yl, yb, yp, yg)))) (vp_Si (fun r : Int32 => r = nI (cn yt a b))) 0 0 (fun _ => False) := by
  refine Met.ofW (cc := cX1_count) (maxL := 5) (ret := (some .int)) (by decide) rfl ?_
  intro p e s m args below meth c s₁ B hml hv
  obtain ⟨rfl, hP, hK⟩ := hv
  have hx := B.exec
  have hb := B.bytes
  have hr := B.returns
  have hts := atoms_spec (ws := wsX1_count) B.pre
  have hown : s.vm.findClass RX1 = some m.cls := findClass_of_methodNamed B.named
  have hlocks := B.notSynchronized
  have h00 : ∀ w ∈ wsX10, w.before _ s = true := fun w h => hts w (List.mem_cons_of_mem _ (List.mem_append_right _ h))
  have L1 := hts (.fieldLink RX1 20 "SegmentLogModel" "there" "[Z") (List.mem_of_getElem? (i := 5) rfl)
  have hl := lv_entry ([.ref (bd 0), .int (nI a), .int (nI b)]) (n := 5) (Nat.le_of_ble_eq_true rfl)
  rw [lg_entry_eq]
  generalize (lg_sl ([.ref (bd 0), .int (nI a), .int (nI b)]) ++ List.replicate (5 - (lg_sl ([.ref (bd 0), .int (nI a), .int (nI b)])).length) Slot.unset).toArray = ls at hl ⊢
  have hl : lv_has ls 5 [(0, .ref (bd 0)), (1, .int (nI a)), (2, .int (nI b))] := hl
  refine lv_iconst (v := nI 0) hx hb dX1_count_0 (by decide) ?_
  refine lv_istore_n (lv' := [(3, .int (nI 0)), (0, .ref (bd 0)), (1, .int (nI a)), (2, .int (nI b))]) hx hb dX1_count_1 rfl hl (by decide) rfl (fun ls hl => ?_)
  refine lv_iload_n hx hb dX1_count_2 rfl (lv_at hl 2 rfl) ?_
  refine lv_iconst (v := nI 0) hx hb dX1_count_3 (by decide) ?_
  refine va_mmax hx hb (hml.trans hl.1.symm) hown (hts (.methodLink RX1 42 Lib.Math.max.name) (List.mem_of_getElem? (i := 1) rfl)) (hts (.static Lib.Math.max.name) (List.mem_of_getElem? (i := 2) rfl)) (hts (.initialized "java/lang/Math") (List.mem_of_getElem? (i := 3) rfl)) (hts (.code Lib.Math.max.name Lib.Math.max.code 2 (some .int)) (List.mem_of_getElem? (i := 4) rfl)) (by decide) (Nat.le_of_ble_eq_true rfl) (Nat.zero_le _) (Nat.zero_le _) dX1_count_4 ?_
  refine qa_top (y := nI a) (q_max0 a (by omega)) ?_
  refine lv_istore (lv' := [(4, .int (nI a)), (3, .int (nI 0)), (0, .ref (bd 0)), (1, .int (nI a)), (2, .int (nI b))]) hx hb dX1_count_7 hl (by decide) rfl (fun ls hl => ?_)
  have loop : ∀ (z k : Nat) (ls : Array Slot), a + b + 1 ≤ k + z → a ≤ k → (k = a ∨ k ≤ b) → lv_has ls 5 [(4, .int (nI k)), (3, .int (nI (cn yt a k))), (0, .ref (bd 0)), (1, .int (nI a)), (2, .int (nI b))] → W p l e (headSpec wsX1_count ({ frames := 1, cells := 0, slots := 0, locals := 30 } : Room)).room s m ([.ref (bd 0), .int (nI a), .int (nI b)] : List Value).toArray below meth c s.heap [] 0 0 (MQ below (vp_Si (fun r : Int32 => r = nI (cn yt a b))) ([.ref (bd 0), .int (nI a), .int (nI b)] : List Value).toArray s 0 0 (fun _ => False)) (F0 m 9 ls []) := by
    intro z
    induction z with
    | zero => intro k ls h1 h2 h3; omega
    | succ z ih =>
      intro k ls p1 p2 p3 hl
      refine lv_iload hx hb dX1_count_9 (lv_at hl 0 rfl) ?_
      refine lv_iload_n hx hb dX1_count_11 rfl (lv_at hl 4 rfl) ?_
      refine lv_icmp_ge (tgt := 35) hx hb dX1_count_12 (by decide) (fun c1 => ?_) (fun c1 => ?_)
      · skip
        have hc := q_le (by omega) (by omega) c1
        have hcn : cn yt a k = cn yt a b := by
          rcases p3 with h | h
          · rw [cn_0 yt (by omega), cn_0 yt (by omega)]
          · rw [show k = b by omega]
        refine lv_iload_n hx hb dX1_count_35 rfl (lv_at hl 1 rfl) ?_
        exact W.iret (v := nI (cn yt a k)) hx hb hr (fun t ht hW => ⟨_, rfl, by rw [hcn], ht⟩) (fun _ h => by cases h) dX1_count_36
      · skip
        have hc := q_nle (by omega) (by omega) c1
        refine lv_aload_n hx hb dX1_count_15 rfl (lv_at hl 2 rfl) ?_
        refine va_get (D := (dC, dI)) (ci := 1) (v := .ref (bd 4)) (C := RX1) (T := TX1) (N := 13) hx hb h00 (fun _ h => h) hown hK hP 0 rfl rfl 3 (by decide) L1 (fun _ h9 => h9) rfl dX1_count_16 ?_
        refine lv_iload hx hb dX1_count_19 (lv_at hl 0 rfl) ?_
        refine qa_zald (i := k) hx hb hK hP 4 1 rfl rfl (by omega) (by decide) dX1_count_21 ?_
        refine lv_if_eq (tgt := 29) hx hb dX1_count_22 (by decide) (fun c2 => ?_) (fun c2 => ?_)
        · skip
          refine lv_iinc (v := nI (k + 1)) (lv' := [(4, .int (nI (k + 1))), (3, .int (nI (cn yt a k))), (0, .ref (bd 0)), (1, .int (nI a)), (2, .int (nI b))]) hx hb dX1_count_29 hl (k := 0) rfl (qa_inc1 k) (by decide) rfl (fun ls hl => ?_)
          refine lv_goto (tgt := 9) hx hb dX1_count_32 (by decide) ?_
          rw [← cn_f (a := a) c2] at hl
          exact ih (k + 1) ls (by omega) (by omega) (by omega) (lv_sub hl [0, 1, 2, 3, 4] rfl)
        · skip
          refine lv_iload_n hx hb dX1_count_25 rfl (lv_at hl 1 rfl) ?_
          refine lv_iconst (v := nI 1) hx hb dX1_count_26 (by decide) ?_
          refine lv_iadd hx hb dX1_count_27 ?_
          refine qa_top (nI_add (cn yt a k) 1) ?_
          refine lv_istore_n (lv' := [(3, .int (nI (cn yt a k + 1))), (4, .int (nI k)), (0, .ref (bd 0)), (1, .int (nI a)), (2, .int (nI b))]) hx hb dX1_count_28 rfl hl (by decide) rfl (fun ls hl => ?_)
          refine lv_iinc (v := nI (k + 1)) (lv' := [(4, .int (nI (k + 1))), (3, .int (nI (cn yt a k + 1))), (0, .ref (bd 0)), (1, .int (nI a)), (2, .int (nI b))]) hx hb dX1_count_29 hl (k := 1) rfl (qa_inc1 k) (by decide) rfl (fun ls hl => ?_)
          refine lv_goto (tgt := 9) hx hb dX1_count_32 (by decide) ?_
          rw [← cn_t p2 c2] at hl
          exact ih (k + 1) ls (by omega) (by omega) (by omega) (lv_sub hl [0, 1, 2, 3, 4] rfl)
  have hl : lv_has ls 5 [(4, .int (nI a)), (3, .int (nI (cn yt a a))), (0, .ref (bd 0)), (1, .int (nI a)), (2, .int (nI b))] := by rw [cn_0 yt (Nat.le_refl a)]; exact hl
  exact loop (b + 1) a ls (by omega) (Nat.le_refl a) (Or.inl rfl) hl
set_option maxHeartbeats 4000000 in
set_option maxRecDepth 100000 in
theorem c1_isGroup (l : Launch) (dC : Nat → ClassId) (dI : Nat → Nat → Nat) (cI cZ : ClassId) (bd : Nat → Nat) (sg st en du th : Nat) (yk yv yr yt yl yb yp yg : Nat → Int32) (x : Int32)  : Met l yX1_isGroup wsX1_isGroup ({ frames := 0, cells := 0, slots := 0, locals := 0 } : Room) (va_Pc [.int x] (fun _ => True)) (vp_Si (fun r : Int32 => (∃ g, gp x g ∧ r = nI 1) ∨ ((∀ g, ¬ gp x g) ∧ r = nI 0))) 0 0 (fun _ => False) := by
  refine Met.ofW (cc := cX1_isGroup) (maxL := 1) (ret := (some .boolean)) (by decide) rfl ?_
  intro p e s m args below meth c s₁ B hml hv
  obtain ⟨rfl, -⟩ := hv
  have hx := B.exec
  have hb := B.bytes
  have hr := B.returns
  have hts := atoms_spec (ws := wsX1_isGroup) B.pre
  have hown : s.vm.findClass RX1 = some m.cls := findClass_of_methodNamed B.named
  have hlocks := B.notSynchronized
  have hl := lv_entry ([.int x]) (n := 1) (Nat.le_of_ble_eq_true rfl)
  rw [lg_entry_eq]
  generalize (lg_sl ([.int x]) ++ List.replicate (1 - (lg_sl ([.int x])).length) Slot.unset).toArray = ls at hl ⊢
  have hl : lv_has ls 1 [(0, .int x)] := hl
  refine lv_iload_n hx hb dX1_isGroup_0 rfl (lv_at hl 0 rfl) ?_
  refine lv_if_lt (tgt := 13) hx hb dX1_isGroup_1 (by decide) (fun c => ?_) (fun c => ?_)
  · skip
    refine lv_iconst (v := nI 0) hx hb dX1_isGroup_13 (by decide) ?_
    exact W.zret (v := nI 0) hx hb hr (by decide) (fun t ht hW => ⟨_, rfl, Or.inr ⟨gp_no (Or.inl c), rfl⟩, ht⟩) (fun _ h => by cases h) dX1_isGroup_14
  · skip
    obtain ⟨g, hg, rfl⟩ := pk_ge0 c
    refine lv_iload_n hx hb dX1_isGroup_4 rfl (lv_at hl 0 rfl) ?_
    refine lv_iconst (v := nI 4) hx hb dX1_isGroup_5 (by decide) ?_
    refine lv_icmp_ge (tgt := 13) hx hb dX1_isGroup_6 (by decide) (fun c2 => ?_) (fun c2 => ?_)
    · skip
      refine lv_iconst (v := nI 0) hx hb dX1_isGroup_13 (by decide) ?_
      exact W.zret (v := nI 0) hx hb hr (by decide) (fun t ht hW => ⟨_, rfl, Or.inr ⟨gp_no (Or.inr c2), rfl⟩, ht⟩) (fun _ h => by cases h) dX1_isGroup_14
    · skip
      refine lv_iconst (v := nI 1) hx hb dX1_isGroup_9 (by decide) ?_
      refine lv_goto (tgt := 14) hx hb dX1_isGroup_10 (by decide) ?_
      exact W.zret (v := nI 1) hx hb hr (by decide) (fun t ht hW => ⟨_, rfl, Or.inl ⟨g, ⟨q_nle (by omega) hg c2, rfl⟩, rfl⟩, ht⟩) (fun _ h => by cases h) dX1_isGroup_14
set_option maxHeartbeats 4000000 in
set_option maxRecDepth 100000 in
theorem c1_isLater (l : Launch) (dC : Nat → ClassId) (dI : Nat → Nat → Nat) (cI cZ : ClassId) (bd : Nat → Nat) (sg st en du th : Nat) (yk yv yr yt yl yb yp yg : Nat → Int32) (j k : Nat) (hj : j < 4200) (hk : k < 4200) : Met l yX1_isLater wsX1_isLater ({ frames := 0, cells := 0, slots := 0, locals := 0 } : Room) (va_Pc [.ref (bd 0), .int (nI j), .int (nI k)] (pr_r dC dI cI cZ (w1 cI cZ bd (sg, st, en, du, th, yk, yv, yr, yt, yl, yb, yp, yg)))) (vp_Si (fun r : Int32 => (r = nI 1 ∧ ¬ yt j = 0 ∧ yk j = yk k) ∨ (r = nI 0 ∧ ¬ (¬ yt j = 0 ∧ yk j = yk k)))) 0 0 (fun _ => False) := by
  refine Met.ofW (cc := cX1_isLater) (maxL := 3) (ret := (some .boolean)) (by decide) rfl ?_
  intro p e s m args below meth c s₁ B hml hv
  obtain ⟨rfl, hP, hK⟩ := hv
  have hx := B.exec
  have hb := B.bytes
  have hr := B.returns
  have hts := atoms_spec (ws := wsX1_isLater) B.pre
  have hown : s.vm.findClass RX1 = some m.cls := findClass_of_methodNamed B.named
  have hlocks := B.notSynchronized
  have h00 : ∀ w ∈ wsX10, w.before _ s = true := fun w h => hts w (List.mem_cons_of_mem _ (List.mem_append_right _ h))
  have L1 := hts (.fieldLink RX1 20 "SegmentLogModel" "there" "[Z") (List.mem_of_getElem? (i := 1) rfl)
  have L2 := hts (.fieldLink RX1 9 "SegmentLogModel" "keys" "[I") (List.mem_of_getElem? (i := 2) rfl)
  have hl := lv_entry ([.ref (bd 0), .int (nI j), .int (nI k)]) (n := 3) (Nat.le_of_ble_eq_true rfl)
  rw [lg_entry_eq]
  generalize (lg_sl ([.ref (bd 0), .int (nI j), .int (nI k)]) ++ List.replicate (3 - (lg_sl ([.ref (bd 0), .int (nI j), .int (nI k)])).length) Slot.unset).toArray = ls at hl ⊢
  have hl : lv_has ls 3 [(0, .ref (bd 0)), (1, .int (nI j)), (2, .int (nI k))] := hl
  refine lv_aload_n hx hb dX1_isLater_0 rfl (lv_at hl 0 rfl) ?_
  refine va_get (D := (dC, dI)) (ci := 1) (v := .ref (bd 4)) (C := RX1) (T := TX1) (N := 13) hx hb h00 (fun _ h => h) hown hK hP 0 rfl rfl 3 (by decide) L1 (fun _ h9 => h9) rfl dX1_isLater_1 ?_
  refine lv_iload_n hx hb dX1_isLater_4 rfl (lv_at hl 1 rfl) ?_
  refine qa_zald (i := j) hx hb hK hP 4 1 rfl rfl (by omega) (by decide) dX1_isLater_5 ?_
  refine lv_if_eq (tgt := 28) hx hb dX1_isLater_6 (by decide) (fun c1 => ?_) (fun c1 => ?_)
  · skip
    refine lv_iconst (v := nI 0) hx hb dX1_isLater_28 (by decide) ?_
    exact W.zret (v := nI 0) hx hb hr (by decide) (fun t ht hW => ⟨_, rfl, Or.inr ⟨rfl, fun h => h.1 c1⟩, ht⟩) (fun _ h => by cases h) dX1_isLater_29
  · skip
    refine lv_aload_n hx hb dX1_isLater_9 rfl (lv_at hl 0 rfl) ?_
    refine va_get (D := (dC, dI)) (ci := 1) (v := .ref (bd 1)) (C := RX1) (T := TX1) (N := 13) hx hb h00 (fun _ h => h) hown hK hP 0 rfl rfl 0 (by decide) L2 (fun _ h9 => h9) rfl dX1_isLater_10 ?_
    refine lv_iload_n hx hb dX1_isLater_13 rfl (lv_at hl 1 rfl) ?_
    refine qa_iald (i := j) hx hb hK hP 1 0 rfl rfl (by omega) (by decide) dX1_isLater_14 ?_
    refine lv_aload_n hx hb dX1_isLater_15 rfl (lv_at hl 0 rfl) ?_
    refine va_get (D := (dC, dI)) (ci := 1) (v := .ref (bd 1)) (C := RX1) (T := TX1) (N := 13) hx hb h00 (fun _ h => h) hown hK hP 0 rfl rfl 0 (by decide) L2 (fun _ h9 => h9) rfl dX1_isLater_16 ?_
    refine lv_iload_n hx hb dX1_isLater_19 rfl (lv_at hl 2 rfl) ?_
    refine qa_iald (i := k) hx hb hK hP 1 0 rfl rfl (by omega) (by decide) dX1_isLater_20 ?_
    refine lv_icmp_ne (tgt := 28) hx hb dX1_isLater_21 (by decide) (fun c2 => ?_) (fun c2 => ?_)
    · skip
      refine lv_iconst (v := nI 0) hx hb dX1_isLater_28 (by decide) ?_
      exact W.zret (v := nI 0) hx hb hr (by decide) (fun t ht hW => ⟨_, rfl, Or.inr ⟨rfl, fun h => c2 h.2⟩, ht⟩) (fun _ h => by cases h) dX1_isLater_29
    · skip
      refine lv_iconst (v := nI 1) hx hb dX1_isLater_24 (by decide) ?_
      refine lv_goto (tgt := 29) hx hb dX1_isLater_25 (by decide) ?_
      exact W.zret (v := nI 1) hx hb hr (by decide) (fun t ht hW => ⟨_, rfl, Or.inl ⟨rfl, c1, c2⟩, ht⟩) (fun _ h => by cases h) dX1_isLater_29
set_option maxHeartbeats 4000000 in
set_option maxRecDepth 100000 in
theorem c1_look (l : Launch) (dC : Nat → ClassId) (dI : Nat → Nat → Nat) (cI cZ : ClassId) (bd : Nat → Nat) (sg st en du th : Nat) (yk yv yr yt yl yb yp yg : Nat → Int32) (x : Int32) (hs : st ≤ 4200) (he : en ≤ 4200) : Met l yX1_look wsX1_look ({ frames := 0, cells := 0, slots := 0, locals := 0 } : Room) (va_Pc [.ref (bd 0), .int x] (pr_r dC dI cI cZ (w1 cI cZ bd (sg, st, en, du, th, yk, yv, yr, yt, yl, yb, yp, yg)))) (vp_Si (fun r : Int32 => ((x < nI st ∨ nI en ≤ x) ∧ r = nI 1) ∨ (∃ q, q < 4200 ∧ x = nI q ∧ st ≤ q ∧ q < en ∧ ((¬ yt q = 0 ∧ r = nI 0) ∨ (yt q = 0 ∧ r = nI 2))))) 0 0 (fun _ => False) := by
  refine Met.ofW (cc := cX1_look) (maxL := 2) (ret := (some .int)) (by decide) rfl ?_
  intro p e s m args below meth c s₁ B hml hv
  obtain ⟨rfl, hP, hK⟩ := hv
  have hx := B.exec
  have hb := B.bytes
  have hr := B.returns
  have hts := atoms_spec (ws := wsX1_look) B.pre
  have hown : s.vm.findClass RX1 = some m.cls := findClass_of_methodNamed B.named
  have hlocks := B.notSynchronized
  have h00 : ∀ w ∈ wsX10, w.before _ s = true := fun w h => hts w (List.mem_cons_of_mem _ (List.mem_append_right _ h))
  have L1 := hts (.fieldLink RX1 51 "SegmentLogModel" "start" "I") (List.mem_of_getElem? (i := 1) rfl)
  have L2 := hts (.fieldLink RX1 48 "SegmentLogModel" "end" "I") (List.mem_of_getElem? (i := 2) rfl)
  have L3 := hts (.fieldLink RX1 20 "SegmentLogModel" "there" "[Z") (List.mem_of_getElem? (i := 3) rfl)
  have hl := lv_entry ([.ref (bd 0), .int x]) (n := 2) (Nat.le_of_ble_eq_true rfl)
  rw [lg_entry_eq]
  generalize (lg_sl ([.ref (bd 0), .int x]) ++ List.replicate (2 - (lg_sl ([.ref (bd 0), .int x])).length) Slot.unset).toArray = ls at hl ⊢
  have hl : lv_has ls 2 [(0, .ref (bd 0)), (1, .int x)] := hl
  refine lv_iload_n hx hb dX1_look_0 rfl (lv_at hl 1 rfl) ?_
  refine lv_aload_n hx hb dX1_look_1 rfl (lv_at hl 0 rfl) ?_
  refine va_get (D := (dC, dI)) (ci := 1) (v := .int (nI st)) (C := RX1) (T := TX1) (N := 13) hx hb h00 (fun _ h => h) hown hK hP 0 rfl rfl 7 (by decide) L1 (fun _ h9 => h9) rfl dX1_look_2 ?_
  refine lv_icmp_lt (tgt := 16) hx hb dX1_look_5 (by decide) (fun c1 => ?_) (fun c1 => ?_)
  · skip
    refine lv_iconst (v := nI 1) hx hb dX1_look_16 (by decide) ?_
    refine lv_goto (tgt := 34) hx hb dX1_look_17 (by decide) ?_
    exact W.iret (v := nI 1) hx hb hr (fun t ht hW => ⟨_, rfl, Or.inl ⟨Or.inl c1, rfl⟩, ht⟩) (fun _ h => by cases h) dX1_look_34
  · skip
    refine lv_iload_n hx hb dX1_look_8 rfl (lv_at hl 1 rfl) ?_
    refine lv_aload_n hx hb dX1_look_9 rfl (lv_at hl 0 rfl) ?_
    refine va_get (D := (dC, dI)) (ci := 1) (v := .int (nI en)) (C := RX1) (T := TX1) (N := 13) hx hb h00 (fun _ h => h) hown hK hP 0 rfl rfl 8 (by decide) L2 (fun _ h9 => h9) rfl dX1_look_10 ?_
    refine lv_icmp_lt (tgt := 20) hx hb dX1_look_13 (by decide) (fun c2 => ?_) (fun c2 => ?_)
    · skip
      have h0 : ¬ x < 0 := fun h => c1 (Int32.lt_of_lt_of_le h (nI_pos' (by omega)))
      obtain ⟨q, hq, rfl⟩ := nI_of h0
      have hq1 := q_nlt hq (by omega) c1
      have hq2 : q < en := q_lt hq (by omega) c2
      refine lv_aload_n hx hb dX1_look_20 rfl (lv_at hl 0 rfl) ?_
      refine va_get (D := (dC, dI)) (ci := 1) (v := .ref (bd 4)) (C := RX1) (T := TX1) (N := 13) hx hb h00 (fun _ h => h) hown hK hP 0 rfl rfl 3 (by decide) L3 (fun _ h9 => h9) rfl dX1_look_21 ?_
      refine lv_iload_n hx hb dX1_look_24 rfl (lv_at hl 1 rfl) ?_
      refine qa_zald (i := q) hx hb hK hP 4 1 rfl rfl (by omega) (by decide) dX1_look_25 ?_
      refine lv_if_eq (tgt := 33) hx hb dX1_look_26 (by decide) (fun c3 => ?_) (fun c3 => ?_)
      · skip
        refine lv_iconst (v := nI 2) hx hb dX1_look_33 (by decide) ?_
        exact W.iret (v := nI 2) hx hb hr (fun t ht hW => ⟨_, rfl, Or.inr ⟨q, by omega, rfl, hq1, hq2, Or.inr ⟨c3, rfl⟩⟩, ht⟩) (fun _ h => by cases h) dX1_look_34
      · skip
        refine lv_iconst (v := nI 0) hx hb dX1_look_29 (by decide) ?_
        refine lv_goto (tgt := 34) hx hb dX1_look_30 (by decide) ?_
        exact W.iret (v := nI 0) hx hb hr (fun t ht hW => ⟨_, rfl, Or.inr ⟨q, by omega, rfl, hq1, hq2, Or.inl ⟨c3, rfl⟩⟩, ht⟩) (fun _ h => by cases h) dX1_look_34
    · skip
      refine lv_iconst (v := nI 1) hx hb dX1_look_16 (by decide) ?_
      refine lv_goto (tgt := 34) hx hb dX1_look_17 (by decide) ?_
      exact W.iret (v := nI 1) hx hb hr (fun t ht hW => ⟨_, rfl, Or.inl ⟨Or.inr (Int32.not_lt.mp c2), rfl⟩, ht⟩) (fun _ h => by cases h) dX1_look_34
set_option maxHeartbeats 4000000 in
set_option maxRecDepth 100000 in
theorem c1_next (l : Launch) (dC : Nat → ClassId) (dI : Nat → Nat → Nat) (cI cZ : ClassId) (bd : Nat → Nat) (sg st en du th : Nat) (yk yv yr yt yl yb yp yg : Nat → Int32) (x : Int32) (hs : st ≤ 4200) (he : en ≤ 4200) : Met l yX1_next wsX1_next ({ frames := 1, cells := 0, slots := 0, locals := 30 } : Room) (va_Pc [.ref (bd 0), .int x] (pr_r dC dI cI cZ (w1 cI cZ bd (sg, st, en, du, th, yk, yv, yr, yt, yl, yb, yp, yg)))) (vp_Si (fun r : Int32 => (∃ k, st ≤ k ∧ k < en ∧ ¬ nI k < x ∧ ¬ yt k = 0 ∧ (∀ q, st ≤ q → q < k → ¬ nI q < x → yt q = 0) ∧ r = nI k) ∨ ((∀ q, st ≤ q → q < en → ¬ nI q < x → yt q = 0) ∧ r = -1))) 0 0 (fun _ => False) := by
  refine Met.ofW (cc := cX1_next) (maxL := 3) (ret := (some .int)) (by decide) rfl ?_
  intro p e s m args below meth c s₁ B hml hv
  obtain ⟨rfl, hP, hK⟩ := hv
  have hx := B.exec
  have hb := B.bytes
  have hr := B.returns
  have hts := atoms_spec (ws := wsX1_next) B.pre
  have hown : s.vm.findClass RX1 = some m.cls := findClass_of_methodNamed B.named
  have hlocks := B.notSynchronized
  have h00 : ∀ w ∈ wsX10, w.before _ s = true := fun w h => hts w (List.mem_cons_of_mem _ (List.mem_append_right _ h))
  have L1 := hts (.fieldLink RX1 51 "SegmentLogModel" "start" "I") (List.mem_of_getElem? (i := 1) rfl)
  have L2 := hts (.fieldLink RX1 48 "SegmentLogModel" "end" "I") (List.mem_of_getElem? (i := 6) rfl)
  have L3 := hts (.fieldLink RX1 20 "SegmentLogModel" "there" "[Z") (List.mem_of_getElem? (i := 7) rfl)
  have hl := lv_entry ([.ref (bd 0), .int x]) (n := 3) (Nat.le_of_ble_eq_true rfl)
  rw [lg_entry_eq]
  generalize (lg_sl ([.ref (bd 0), .int x]) ++ List.replicate (3 - (lg_sl ([.ref (bd 0), .int x])).length) Slot.unset).toArray = ls at hl ⊢
  have hl : lv_has ls 3 [(0, .ref (bd 0)), (1, .int x)] := hl
  obtain ⟨a, ha, hax, haq⟩ := q_from (x := x) (st := st) (by omega)
  refine lv_iload_n hx hb dX1_next_0 rfl (lv_at hl 1 rfl) ?_
  refine lv_aload_n hx hb dX1_next_1 rfl (lv_at hl 0 rfl) ?_
  refine va_get (D := (dC, dI)) (ci := 1) (v := .int (nI st)) (C := RX1) (T := TX1) (N := 13) hx hb h00 (fun _ h => h) hown hK hP 0 rfl rfl 7 (by decide) L1 (fun _ h9 => h9) rfl dX1_next_2 ?_
  refine va_mmax hx hb (hml.trans hl.1.symm) hown (hts (.methodLink RX1 42 Lib.Math.max.name) (List.mem_of_getElem? (i := 2) rfl)) (hts (.static Lib.Math.max.name) (List.mem_of_getElem? (i := 3) rfl)) (hts (.initialized "java/lang/Math") (List.mem_of_getElem? (i := 4) rfl)) (hts (.code Lib.Math.max.name Lib.Math.max.code 2 (some .int)) (List.mem_of_getElem? (i := 5) rfl)) (by decide) (Nat.le_of_ble_eq_true rfl) (Nat.zero_le _) (Nat.zero_le _) dX1_next_5 ?_
  refine qa_top (y := nI a) (hax) ?_
  refine lv_istore_n (lv' := [(2, .int (nI a)), (0, .ref (bd 0)), (1, .int x)]) hx hb dX1_next_8 rfl hl (by decide) rfl (fun ls hl => ?_)
  have loop : ∀ (z k : Nat) (ls : Array Slot), en + 1 ≤ k + z → a ≤ k → k < 2 ^ 31 → (∀ q, a ≤ q → q < k → q < en → yt q = 0) → lv_has ls 3 [(2, .int (nI k)), (0, .ref (bd 0)), (1, .int x)] → W p l e (headSpec wsX1_next ({ frames := 1, cells := 0, slots := 0, locals := 30 } : Room)).room s m ([.ref (bd 0), .int x] : List Value).toArray below meth c s.heap [] 0 0 (MQ below (vp_Si (fun r : Int32 => (∃ k, st ≤ k ∧ k < en ∧ ¬ nI k < x ∧ ¬ yt k = 0 ∧ (∀ q, st ≤ q → q < k → ¬ nI q < x → yt q = 0) ∧ r = nI k) ∨ ((∀ q, st ≤ q → q < en → ¬ nI q < x → yt q = 0) ∧ r = -1))) ([.ref (bd 0), .int x] : List Value).toArray s 0 0 (fun _ => False)) (F0 m 9 ls []) := by
    intro z
    induction z with
    | zero =>
      intro k ls p1 p2 p2b p3 hl
      refine lv_iload_n hx hb dX1_next_9 rfl (lv_at hl 0 rfl) ?_
      refine lv_aload_n hx hb dX1_next_10 rfl (lv_at hl 1 rfl) ?_
      refine va_get (D := (dC, dI)) (ci := 1) (v := .int (nI en)) (C := RX1) (T := TX1) (N := 13) hx hb h00 (fun _ h => h) hown hK hP 0 rfl rfl 8 (by decide) L2 (fun _ h9 => h9) rfl dX1_next_11 ?_
      refine lv_icmp_ge (tgt := 34) hx hb dX1_next_14 (by decide) (fun c1 => ?_) (fun c1 => ?_)
      · skip
        have hc := q_le (by omega) (by omega) c1
        refine lv_iconst (v := (-1)) hx hb dX1_next_34 (by decide) ?_
        exact W.iret (v := (-1)) hx hb hr (fun t ht hW => ⟨_, rfl, Or.inr ⟨fun q h1 h2 h3 => p3 q ((haq q (by omega)).mpr ⟨h1, h3⟩) (by omega) h2, rfl⟩, ht⟩) (fun _ h => by cases h) dX1_next_35
      · skip
        have hc := q_nle (by omega) (by omega) c1
        omega
    | succ z ih =>
      intro k ls p1 p2 p2b p3 hl
      refine lv_iload_n hx hb dX1_next_9 rfl (lv_at hl 0 rfl) ?_
      refine lv_aload_n hx hb dX1_next_10 rfl (lv_at hl 1 rfl) ?_
      refine va_get (D := (dC, dI)) (ci := 1) (v := .int (nI en)) (C := RX1) (T := TX1) (N := 13) hx hb h00 (fun _ h => h) hown hK hP 0 rfl rfl 8 (by decide) L2 (fun _ h9 => h9) rfl dX1_next_11 ?_
      refine lv_icmp_ge (tgt := 34) hx hb dX1_next_14 (by decide) (fun c1 => ?_) (fun c1 => ?_)
      · skip
        have hc := q_le (by omega) (by omega) c1
        refine lv_iconst (v := (-1)) hx hb dX1_next_34 (by decide) ?_
        exact W.iret (v := (-1)) hx hb hr (fun t ht hW => ⟨_, rfl, Or.inr ⟨fun q h1 h2 h3 => p3 q ((haq q (by omega)).mpr ⟨h1, h3⟩) (by omega) h2, rfl⟩, ht⟩) (fun _ h => by cases h) dX1_next_35
      · skip
        have hc := q_nle (by omega) (by omega) c1
        refine lv_aload_n hx hb dX1_next_17 rfl (lv_at hl 1 rfl) ?_
        refine va_get (D := (dC, dI)) (ci := 1) (v := .ref (bd 4)) (C := RX1) (T := TX1) (N := 13) hx hb h00 (fun _ h => h) hown hK hP 0 rfl rfl 3 (by decide) L3 (fun _ h9 => h9) rfl dX1_next_18 ?_
        refine lv_iload_n hx hb dX1_next_21 rfl (lv_at hl 0 rfl) ?_
        refine qa_zald (i := k) hx hb hK hP 4 1 rfl rfl (by omega) (by decide) dX1_next_22 ?_
        refine lv_if_eq (tgt := 28) hx hb dX1_next_23 (by decide) (fun c2 => ?_) (fun c2 => ?_)
        · skip
          refine lv_iinc (v := nI (k + 1)) (lv' := [(2, .int (nI (k + 1))), (0, .ref (bd 0)), (1, .int x)]) hx hb dX1_next_28 hl (k := 0) rfl (qa_inc1 k) (by decide) rfl (fun ls hl => ?_)
          refine lv_goto (tgt := 9) hx hb dX1_next_31 (by decide) ?_
          refine ih (k + 1) ls (by omega) (by omega) (by omega) (fun q q1 q2 q3 => ?_) (lv_sub hl [0, 1, 2] rfl)
          rcases Nat.lt_or_ge q k with h | h
          · exact p3 q q1 h q3
          · have : q = k := by omega
            subst this; exact c2
        · skip
          refine lv_iload_n hx hb dX1_next_26 rfl (lv_at hl 0 rfl) ?_
          exact W.iret (v := nI k) hx hb hr (fun t ht hW => ⟨_, rfl, Or.inl ⟨k, ((haq k p2b).mp p2).1, hc, ((haq k p2b).mp p2).2, c2, fun q h1 h2 h3 => p3 q ((haq q (by omega)).mpr ⟨h1, h3⟩) h2 (by omega), rfl⟩, ht⟩) (fun _ h => by cases h) dX1_next_27
  exact loop (en + 1) a ls (by omega) (Nat.le_refl a) ha (fun q h1 h2 => by omega) (lv_sub hl [0, 1, 2] rfl)
set_option maxHeartbeats 4000000 in
set_option maxRecDepth 100000 in
theorem c1_position (l : Launch) (dC : Nat → ClassId) (dI : Nat → Nat → Nat) (cI cZ : ClassId) (bd : Nat → Nat) (sg st en du th : Nat) (yk yv yr yt yl yb yp yg : Nat → Int32) (x : Int32)  : Met l yX1_position wsX1_position ({ frames := 1, cells := 0, slots := 0, locals := 30 } : Room) (va_Pc [.ref (bd 0), .int x] (pr_r dC dI cI cZ (w1 cI cZ bd (sg, st, en, du, th, yk, yv, yr, yt, yl, yb, yp, yg)))) (vp_Si (fun r : Int32 => (∃ g, gp x g ∧ r = yp g) ∨ ((∀ g, ¬ gp x g) ∧ r = -1))) 0 0 (fun _ => False) := by
  refine Met.ofW (cc := cX1_position) (maxL := 2) (ret := (some .int)) (by decide) rfl ?_
  intro p e s m args below meth c s₁ B hml hv
  obtain ⟨rfl, hP, hK⟩ := hv
  have hx := B.exec
  have hb := B.bytes
  have hr := B.returns
  have hts := atoms_spec (ws := wsX1_position) B.pre
  have hown : s.vm.findClass RX1 = some m.cls := findClass_of_methodNamed B.named
  have hlocks := B.notSynchronized
  have h00 : ∀ w ∈ wsX10, w.before _ s = true := fun w h => hts w (List.mem_cons_of_mem _ (List.mem_append_right _ h))
  have L1 := hts (.fieldLink RX1 33 "SegmentLogModel" "positions" "[I") (List.mem_of_getElem? (i := 1) rfl)
  have hl := lv_entry ([.ref (bd 0), .int x]) (n := 2) (Nat.le_of_ble_eq_true rfl)
  rw [lg_entry_eq]
  generalize (lg_sl ([.ref (bd 0), .int x]) ++ List.replicate (2 - (lg_sl ([.ref (bd 0), .int x])).length) Slot.unset).toArray = ls at hl ⊢
  have hl : lv_has ls 2 [(0, .ref (bd 0)), (1, .int x)] := hl
  refine lv_iload_n hx hb dX1_position_0 rfl (lv_at hl 1 rfl) ?_
  refine vp_callSi (W.runS (As := [.int x]) (rest := []) ⟨hx, hb, hml, hown, hts⟩ (c1_isGroup l dC dI cI cZ bd sg st en du th yk yv yr yt yl yb yp yg x ) (va_cwS 1 hts gX1_position_X1_isGroup rfl rfl rfl (by decide +kernel) ⟨Nat.le_of_ble_eq_true rfl, Nat.le_of_ble_eq_true rfl⟩) ⟨fun _ _ _ _ q => q, fun U _ _ => ⟨rfl, trivial⟩⟩ rfl rfl hl.1 rfl (lv_room (Nat.le_of_ble_eq_true rfl)) dX1_position_1 ⟨by decide, by decide⟩) (fun r1 hq => ?_)
  rcases hq with ⟨g, hg, rfl⟩ | ⟨hg, rfl⟩
  · skip
    refine lv_if_eq (tgt := 16) hx hb dX1_position_4 (by decide) (fun c1 => ?_) (fun c1 => ?_)
    · skip
      exact absurd c1 (by decide)
    · skip
      obtain ⟨hg4, rfl⟩ := hg
      refine lv_aload_n hx hb dX1_position_7 rfl (lv_at hl 0 rfl) ?_
      refine va_get (D := (dC, dI)) (ci := 1) (v := .ref (bd 7)) (C := RX1) (T := TX1) (N := 13) hx hb h00 (fun _ h => h) hown hK hP 0 rfl rfl 11 (by decide) L1 (fun _ h9 => h9) rfl dX1_position_8 ?_
      refine lv_iload_n hx hb dX1_position_11 rfl (lv_at hl 1 rfl) ?_
      refine qa_iald (i := g) hx hb hK hP 7 0 rfl rfl (by omega) (by decide) dX1_position_12 ?_
      refine lv_goto (tgt := 17) hx hb dX1_position_13 (by decide) ?_
      exact W.iret (v := yp g) hx hb hr (fun t ht hW => ⟨_, rfl, Or.inl ⟨g, ⟨hg4, rfl⟩, rfl⟩, ht⟩) (fun _ h => by cases h) dX1_position_17
  · skip
    refine lv_if_eq (tgt := 16) hx hb dX1_position_4 (by decide) (fun c1 => ?_) (fun c1 => ?_)
    · skip
      refine lv_iconst (v := (-1)) hx hb dX1_position_16 (by decide) ?_
      exact W.iret (v := (-1)) hx hb hr (fun t ht hW => ⟨_, rfl, Or.inr ⟨hg, rfl⟩, ht⟩) (fun _ h => by cases h) dX1_position_17
    · skip
      exact absurd rfl c1
set_option maxHeartbeats 4000000 in
set_option maxRecDepth 100000 in
theorem c1_lag (l : Launch) (dC : Nat → ClassId) (dI : Nat → Nat → Nat) (cI cZ : ClassId) (bd : Nat → Nat) (sg st en du th : Nat) (yk yv yr yt yl yb yp yg : Nat → Int32) (x : Int32) (Ps : Nat → Nat) (he : en ≤ 4200) (hps : ∀ g, g < 4 → yp g = nI (Ps g) ∧ Ps g ≤ 4200) : Met l yX1_lag wsX1_lag ({ frames := 2, cells := 0, slots := 0, locals := 60 } : Room) (va_Pc [.ref (bd 0), .int x] (pr_r dC dI cI cZ (w1 cI cZ bd (sg, st, en, du, th, yk, yv, yr, yt, yl, yb, yp, yg)))) (vp_Si (fun r : Int32 => (∃ g, gp x g ∧ r = nI (cn yt (Ps g) en)) ∨ ((∀ g, ¬ gp x g) ∧ r = -1))) 0 0 (fun _ => False) := by
  refine Met.ofW (cc := cX1_lag) (maxL := 2) (ret := (some .int)) (by decide) rfl ?_
  intro p e s m args below meth c s₁ B hml hv
  obtain ⟨rfl, hP, hK⟩ := hv
  have hx := B.exec
  have hb := B.bytes
  have hr := B.returns
  have hts := atoms_spec (ws := wsX1_lag) B.pre
  have hown : s.vm.findClass RX1 = some m.cls := findClass_of_methodNamed B.named
  have hlocks := B.notSynchronized
  have h00 : ∀ w ∈ wsX10, w.before _ s = true := fun w h => hts w (List.mem_cons_of_mem _ (List.mem_append_right _ h))
  have L1 := hts (.fieldLink RX1 33 "SegmentLogModel" "positions" "[I") (List.mem_of_getElem? (i := 1) rfl)
  have L2 := hts (.fieldLink RX1 48 "SegmentLogModel" "end" "I") (List.mem_of_getElem? (i := 2) rfl)
  have hl := lv_entry ([.ref (bd 0), .int x]) (n := 2) (Nat.le_of_ble_eq_true rfl)
  rw [lg_entry_eq]
  generalize (lg_sl ([.ref (bd 0), .int x]) ++ List.replicate (2 - (lg_sl ([.ref (bd 0), .int x])).length) Slot.unset).toArray = ls at hl ⊢
  have hl : lv_has ls 2 [(0, .ref (bd 0)), (1, .int x)] := hl
  refine lv_iload_n hx hb dX1_lag_0 rfl (lv_at hl 1 rfl) ?_
  refine vp_callSi (W.runS (As := [.int x]) (rest := []) ⟨hx, hb, hml, hown, hts⟩ (c1_isGroup l dC dI cI cZ bd sg st en du th yk yv yr yt yl yb yp yg x ) (va_cwS 1 hts gX1_lag_X1_isGroup rfl rfl rfl (by decide +kernel) ⟨Nat.le_of_ble_eq_true rfl, Nat.le_of_ble_eq_true rfl⟩) ⟨fun _ _ _ _ q => q, fun U _ _ => ⟨rfl, trivial⟩⟩ rfl rfl hl.1 rfl (lv_room (Nat.le_of_ble_eq_true rfl)) dX1_lag_1 ⟨by decide, by decide⟩) (fun r1 hq => ?_)
  rcases hq with ⟨g, hg, rfl⟩ | ⟨hg, rfl⟩
  · skip
    refine lv_if_eq (tgt := 24) hx hb dX1_lag_4 (by decide) (fun c1 => ?_) (fun c1 => ?_)
    · skip
      exact absurd c1 (by decide)
    · skip
      obtain ⟨hg4, rfl⟩ := hg
      refine lv_aload_n hx hb dX1_lag_7 rfl (lv_at hl 0 rfl) ?_
      refine lv_aload_n hx hb dX1_lag_8 rfl (lv_at hl 0 rfl) ?_
      refine va_get (D := (dC, dI)) (ci := 1) (v := .ref (bd 7)) (C := RX1) (T := TX1) (N := 13) hx hb h00 (fun _ h => h) hown hK hP 0 rfl rfl 11 (by decide) L1 (fun _ h9 => h9) rfl dX1_lag_9 ?_
      refine lv_iload_n hx hb dX1_lag_12 rfl (lv_at hl 1 rfl) ?_
      refine qa_iald (i := g) hx hb hK hP 7 0 rfl rfl (by omega) (by decide) dX1_lag_13 ?_
      refine qa_top (hps g hg4).1 ?_
      refine lv_aload_n hx hb dX1_lag_14 rfl (lv_at hl 0 rfl) ?_
      refine va_get (D := (dC, dI)) (ci := 1) (v := .int (nI en)) (C := RX1) (T := TX1) (N := 13) hx hb h00 (fun _ h => h) hown hK hP 0 rfl rfl 8 (by decide) L2 (fun _ h9 => h9) rfl dX1_lag_15 ?_
      refine vp_callSi (W.runV (As := [.int (nI (Ps g)), .int (nI en)]) (rest := []) ⟨hx, hb, hml, hown, hts⟩ (c1_count l dC dI cI cZ bd sg st en du th yk yv yr yt yl yb yp yg (Ps g) en (hps g hg4).2 he) (cwV 2 hts gX1_lag_X1_count rfl rfl rfl (by decide +kernel) ⟨Nat.le_of_ble_eq_true rfl, Nat.le_of_ble_eq_true rfl⟩) ⟨bl_r, va_recv hK hP (ci := 1) (q0 := 0) rfl rfl, fun U hU hW => ⟨rfl, by rw [hU]; exact hP, va_K.moved hW.alike hK⟩⟩ rfl rfl hl.1 rfl (lv_room (Nat.le_of_ble_eq_true rfl)) dX1_lag_18 ⟨by decide, by decide⟩) (fun r2 hq2 => ?_)
      subst hq2
      refine lv_goto (tgt := 25) hx hb dX1_lag_21 (by decide) ?_
      exact W.iret (v := nI (cn yt (Ps g) en)) hx hb hr (fun t ht hW => ⟨_, rfl, Or.inl ⟨g, ⟨hg4, rfl⟩, rfl⟩, ht⟩) (fun _ h => by cases h) dX1_lag_25
  · skip
    refine lv_if_eq (tgt := 24) hx hb dX1_lag_4 (by decide) (fun c1 => ?_) (fun c1 => ?_)
    · skip
      refine lv_iconst (v := (-1)) hx hb dX1_lag_24 (by decide) ?_
      exact W.iret (v := (-1)) hx hb hr (fun t ht hW => ⟨_, rfl, Or.inr ⟨hg, rfl⟩, ht⟩) (fun _ h => by cases h) dX1_lag_25
    · skip
      exact absurd rfl c1
set_option maxHeartbeats 4000000 in
set_option maxRecDepth 100000 in
theorem c1_base (l : Launch) (dC : Nat → ClassId) (dI : Nat → Nat → Nat) (cI cZ : ClassId) (bd : Nat → Nat) (sg st en du th : Nat) (yk yv yr yt yl yb yp yg : Nat → Int32) (x : Int32) (hs : sg ≤ 4200) : Met l yX1_base wsX1_base ({ frames := 0, cells := 0, slots := 0, locals := 0 } : Room) (va_Pc [.ref (bd 0), .int x] (pr_r dC dI cI cZ (w1 cI cZ bd (sg, st, en, du, th, yk, yv, yr, yt, yl, yb, yp, yg)))) (vp_Si (fun r : Int32 => (∃ k, k < sg ∧ x = nI k ∧ r = yb k) ∨ ((∀ k, k < sg → ¬ x = nI k) ∧ r = -1))) 0 0 (fun _ => False) := by
  refine Met.ofW (cc := cX1_base) (maxL := 2) (ret := (some .int)) (by decide) rfl ?_
  intro p e s m args below meth c s₁ B hml hv
  obtain ⟨rfl, hP, hK⟩ := hv
  have hx := B.exec
  have hb := B.bytes
  have hr := B.returns
  have hts := atoms_spec (ws := wsX1_base) B.pre
  have hown : s.vm.findClass RX1 = some m.cls := findClass_of_methodNamed B.named
  have hlocks := B.notSynchronized
  have h00 : ∀ w ∈ wsX10, w.before _ s = true := fun w h => hts w (List.mem_cons_of_mem _ (List.mem_append_right _ h))
  have L1 := hts (.fieldLink RX1 29 "SegmentLogModel" "segments" "I") (List.mem_of_getElem? (i := 1) rfl)
  have L2 := hts (.fieldLink RX1 26 "SegmentLogModel" "bases" "[I") (List.mem_of_getElem? (i := 2) rfl)
  have hl := lv_entry ([.ref (bd 0), .int x]) (n := 2) (Nat.le_of_ble_eq_true rfl)
  rw [lg_entry_eq]
  generalize (lg_sl ([.ref (bd 0), .int x]) ++ List.replicate (2 - (lg_sl ([.ref (bd 0), .int x])).length) Slot.unset).toArray = ls at hl ⊢
  have hl : lv_has ls 2 [(0, .ref (bd 0)), (1, .int x)] := hl
  refine lv_iload_n hx hb dX1_base_0 rfl (lv_at hl 1 rfl) ?_
  refine lv_if_lt (tgt := 21) hx hb dX1_base_1 (by decide) (fun c1 => ?_) (fun c1 => ?_)
  · skip
    refine lv_iconst (v := (-1)) hx hb dX1_base_21 (by decide) ?_
    exact W.iret (v := (-1)) hx hb hr (fun t ht hW => ⟨_, rfl, Or.inr ⟨fun k hk e1 => by subst e1; exact nI_pos (by omega) c1, rfl⟩, ht⟩) (fun _ h => by cases h) dX1_base_22
  · skip
    obtain ⟨k, hk, rfl⟩ := pk_ge0 c1
    refine lv_iload_n hx hb dX1_base_4 rfl (lv_at hl 1 rfl) ?_
    refine lv_aload_n hx hb dX1_base_5 rfl (lv_at hl 0 rfl) ?_
    refine va_get (D := (dC, dI)) (ci := 1) (v := .int (nI sg)) (C := RX1) (T := TX1) (N := 13) hx hb h00 (fun _ h => h) hown hK hP 0 rfl rfl 6 (by decide) L1 (fun _ h9 => h9) rfl dX1_base_6 ?_
    refine lv_icmp_ge (tgt := 21) hx hb dX1_base_9 (by decide) (fun c2 => ?_) (fun c2 => ?_)
    · skip
      refine lv_iconst (v := (-1)) hx hb dX1_base_21 (by decide) ?_
      exact W.iret (v := (-1)) hx hb hr (fun t ht hW => ⟨_, rfl, Or.inr ⟨fun k2 hk2 e1 => by have := nI_inj hk (by omega) e1; have := (nI_leI (by omega) hk).mp c2; omega, rfl⟩, ht⟩) (fun _ h => by cases h) dX1_base_22
    · skip
      have hc : k < sg := q_nle (by omega) (by omega) c2
      refine lv_aload_n hx hb dX1_base_12 rfl (lv_at hl 0 rfl) ?_
      refine va_get (D := (dC, dI)) (ci := 1) (v := .ref (bd 6)) (C := RX1) (T := TX1) (N := 13) hx hb h00 (fun _ h => h) hown hK hP 0 rfl rfl 5 (by decide) L2 (fun _ h9 => h9) rfl dX1_base_13 ?_
      refine lv_iload_n hx hb dX1_base_16 rfl (lv_at hl 1 rfl) ?_
      refine qa_iald (i := k) hx hb hK hP 6 0 rfl rfl (by omega) (by decide) dX1_base_17 ?_
      refine lv_goto (tgt := 22) hx hb dX1_base_18 (by decide) ?_
      exact W.iret (v := yb k) hx hb hr (fun t ht hW => ⟨_, rfl, Or.inl ⟨k, hc, rfl, rfl⟩, ht⟩) (fun _ h => by cases h) dX1_base_22
set_option maxHeartbeats 4000000 in
set_option maxRecDepth 100000 in
theorem c1_point (l : Launch) (dC : Nat → ClassId) (dI : Nat → Nat → Nat) (cI cZ : ClassId) (bd : Nat → Nat) (sg st en du th : Nat) (yk yv yr yt yl yb yp yg : Nat → Int32) (hs : 1 ≤ sg) (hs2 : sg ≤ 4200) : Met l yX1_point wsX1_point ({ frames := 0, cells := 0, slots := 0, locals := 0 } : Room) (va_Pc [.ref (bd 0)] (pr_r dC dI cI cZ (w1 cI cZ bd (sg, st, en, du, th, yk, yv, yr, yt, yl, yb, yp, yg)))) (vp_Si (fun r : Int32 => ∃ k, k < sg ∧ r = yb k ∧ (∀ i, k < i → i < sg → ¬ yb i ≤ nI du) ∧ (0 < k → yb k ≤ nI du))) 0 0 (fun _ => False) := by
  refine Met.ofW (cc := cX1_point) (maxL := 3) (ret := (some .int)) (by decide) rfl ?_
  intro p e s m args below meth c s₁ B hml hv
  obtain ⟨rfl, hP, hK⟩ := hv
  have hx := B.exec
  have hb := B.bytes
  have hr := B.returns
  have hts := atoms_spec (ws := wsX1_point) B.pre
  have hown : s.vm.findClass RX1 = some m.cls := findClass_of_methodNamed B.named
  have hlocks := B.notSynchronized
  have h00 : ∀ w ∈ wsX10, w.before _ s = true := fun w h => hts w (List.mem_cons_of_mem _ (List.mem_append_right _ h))
  have L1 := hts (.fieldLink RX1 26 "SegmentLogModel" "bases" "[I") (List.mem_of_getElem? (i := 1) rfl)
  have L2 := hts (.fieldLink RX1 29 "SegmentLogModel" "segments" "I") (List.mem_of_getElem? (i := 2) rfl)
  have L3 := hts (.fieldLink RX1 64 "SegmentLogModel" "durable" "I") (List.mem_of_getElem? (i := 3) rfl)
  have hl := lv_entry ([.ref (bd 0)]) (n := 3) (Nat.le_of_ble_eq_true rfl)
  rw [lg_entry_eq]
  generalize (lg_sl ([.ref (bd 0)]) ++ List.replicate (3 - (lg_sl ([.ref (bd 0)])).length) Slot.unset).toArray = ls at hl ⊢
  have hl : lv_has ls 3 [(0, .ref (bd 0))] := hl
  refine lv_aload_n hx hb dX1_point_0 rfl (lv_at hl 0 rfl) ?_
  refine va_get (D := (dC, dI)) (ci := 1) (v := .ref (bd 6)) (C := RX1) (T := TX1) (N := 13) hx hb h00 (fun _ h => h) hown hK hP 0 rfl rfl 5 (by decide) L1 (fun _ h9 => h9) rfl dX1_point_1 ?_
  refine lv_iconst (v := nI 0) hx hb dX1_point_4 (by decide) ?_
  refine qa_iald (i := 0) hx hb hK hP 6 0 rfl rfl (by omega) (by decide) dX1_point_5 ?_
  refine lv_istore_n (lv' := [(1, .int (yb 0)), (0, .ref (bd 0))]) hx hb dX1_point_6 rfl hl (by decide) rfl (fun ls hl => ?_)
  refine lv_iconst (v := nI 0) hx hb dX1_point_7 (by decide) ?_
  refine lv_istore_n (lv' := [(2, .int (nI 0)), (1, .int (yb 0)), (0, .ref (bd 0))]) hx hb dX1_point_8 rfl hl (by decide) rfl (fun ls hl => ?_)
  have loop : ∀ (z i k : Nat) (ls : Array Slot), sg + 1 ≤ i + z → i ≤ sg → k < sg → (0 < k → k < i) → (∀ q, k < q → q < i → ¬ yb q ≤ nI du) → (0 < k → yb k ≤ nI du) → lv_has ls 3 [(2, .int (nI i)), (1, .int (yb k)), (0, .ref (bd 0))] → W p l e (headSpec wsX1_point ({ frames := 0, cells := 0, slots := 0, locals := 0 } : Room)).room s m ([.ref (bd 0)] : List Value).toArray below meth c s.heap [] 0 0 (MQ below (vp_Si (fun r : Int32 => ∃ k, k < sg ∧ r = yb k ∧ (∀ i, k < i → i < sg → ¬ yb i ≤ nI du) ∧ (0 < k → yb k ≤ nI du))) ([.ref (bd 0)] : List Value).toArray s 0 0 (fun _ => False)) (F0 m 9 ls []) := by
    intro z
    induction z with
    | zero => intro i k ls h1 h2; omega
    | succ z ih =>
      intro i k ls p1 p2 p3 p4 p5 p6 hl
      refine lv_iload_n hx hb dX1_point_9 rfl (lv_at hl 0 rfl) ?_
      refine lv_aload_n hx hb dX1_point_10 rfl (lv_at hl 2 rfl) ?_
      refine va_get (D := (dC, dI)) (ci := 1) (v := .int (nI sg)) (C := RX1) (T := TX1) (N := 13) hx hb h00 (fun _ h => h) hown hK hP 0 rfl rfl 6 (by decide) L2 (fun _ h9 => h9) rfl dX1_point_11 ?_
      refine lv_icmp_ge (tgt := 43) hx hb dX1_point_14 (by decide) (fun c1 => ?_) (fun c1 => ?_)
      · skip
        have hc := q_le (by omega) (by omega) c1
        refine lv_iload_n hx hb dX1_point_43 rfl (lv_at hl 1 rfl) ?_
        exact W.iret (v := yb k) hx hb hr (fun t ht hW => ⟨_, rfl, ⟨k, p3, rfl, fun q q1 q2 => p5 q q1 (by omega), p6⟩, ht⟩) (fun _ h => by cases h) dX1_point_44
      · skip
        have hc := q_nle (by omega) (by omega) c1
        refine lv_aload_n hx hb dX1_point_17 rfl (lv_at hl 2 rfl) ?_
        refine va_get (D := (dC, dI)) (ci := 1) (v := .ref (bd 6)) (C := RX1) (T := TX1) (N := 13) hx hb h00 (fun _ h => h) hown hK hP 0 rfl rfl 5 (by decide) L1 (fun _ h9 => h9) rfl dX1_point_18 ?_
        refine lv_iload_n hx hb dX1_point_21 rfl (lv_at hl 0 rfl) ?_
        refine qa_iald (i := i) hx hb hK hP 6 0 rfl rfl (by omega) (by decide) dX1_point_22 ?_
        refine lv_aload_n hx hb dX1_point_23 rfl (lv_at hl 2 rfl) ?_
        refine va_get (D := (dC, dI)) (ci := 1) (v := .int (nI du)) (C := RX1) (T := TX1) (N := 13) hx hb h00 (fun _ h => h) hown hK hP 0 rfl rfl 9 (by decide) L3 (fun _ h9 => h9) rfl dX1_point_24 ?_
        refine lv_icmp_gt (tgt := 37) hx hb dX1_point_27 (by decide) (fun c2 => ?_) (fun c2 => ?_)
        · skip
          have hnl : ¬ yb i ≤ nI du := Int32.not_le.mpr c2
          refine lv_iinc (v := nI (i + 1)) (lv' := [(2, .int (nI (i + 1))), (1, .int (yb k)), (0, .ref (bd 0))]) hx hb dX1_point_37 hl (k := 0) rfl (qa_inc1 i) (by decide) rfl (fun ls hl => ?_)
          refine lv_goto (tgt := 9) hx hb dX1_point_40 (by decide) ?_
          refine ih (i + 1) k ls (by omega) (by omega) p3 (fun h => by have := p4 h; omega) (fun q q1 q2 => ?_) p6 (lv_sub hl [0, 1, 2] rfl)
          rcases Nat.lt_or_ge q i with h | h
          · exact p5 q q1 h
          · have : q = i := by omega
            subst this; exact hnl
        · skip
          refine lv_aload_n hx hb dX1_point_30 rfl (lv_at hl 2 rfl) ?_
          refine va_get (D := (dC, dI)) (ci := 1) (v := .ref (bd 6)) (C := RX1) (T := TX1) (N := 13) hx hb h00 (fun _ h => h) hown hK hP 0 rfl rfl 5 (by decide) L1 (fun _ h9 => h9) rfl dX1_point_31 ?_
          refine lv_iload_n hx hb dX1_point_34 rfl (lv_at hl 0 rfl) ?_
          refine qa_iald (i := i) hx hb hK hP 6 0 rfl rfl (by omega) (by decide) dX1_point_35 ?_
          refine lv_istore_n (lv' := [(1, .int (yb i)), (2, .int (nI i)), (0, .ref (bd 0))]) hx hb dX1_point_36 rfl hl (by decide) rfl (fun ls hl => ?_)
          refine lv_iinc (v := nI (i + 1)) (lv' := [(2, .int (nI (i + 1))), (1, .int (yb i)), (0, .ref (bd 0))]) hx hb dX1_point_37 hl (k := 1) rfl (qa_inc1 i) (by decide) rfl (fun ls hl => ?_)
          refine lv_goto (tgt := 9) hx hb dX1_point_40 (by decide) ?_
          exact ih (i + 1) i ls (by omega) (by omega) hc (fun _ => by omega) (fun q q1 q2 => by omega) (fun _ => Int32.not_lt.mp c2) (lv_sub hl [0, 1, 2] rfl)
  exact loop (sg + 1) 0 0 ls (by omega) (by omega) hs (fun h => absurd h (Nat.lt_irrefl 0)) (fun q q1 q2 => by omega) (fun h => absurd h (Nat.lt_irrefl 0)) (lv_sub hl [0, 1, 2] rfl)
set_option maxHeartbeats 4000000 in
set_option maxRecDepth 100000 in
theorem c1_latest (l : Launch) (dC : Nat → ClassId) (dI : Nat → Nat → Nat) (cI cZ : ClassId) (bd : Nat → Nat) (sg st en du th : Nat) (yk yv yr yt yl yb yp yg : Nat → Int32) (x : Int32) (hs : st ≤ 4200) (he : en ≤ 4200) : Met l yX1_latest wsX1_latest ({ frames := 0, cells := 0, slots := 0, locals := 0 } : Room) (va_Pc [.ref (bd 0), .int x] (pr_r dC dI cI cZ (w1 cI cZ bd (sg, st, en, du, th, yk, yv, yr, yt, yl, yb, yp, yg)))) (vp_Si (fun r : Int32 => (∃ k, st ≤ k ∧ k < en ∧ ¬ yt k = 0 ∧ yk k = x ∧ (∀ q, k < q → q < en → ¬ (¬ yt q = 0 ∧ yk q = x)) ∧ ((yr k = 0 ∧ r = nI k) ∨ (¬ yr k = 0 ∧ r = -1))) ∨ ((∀ q, st ≤ q → q < en → ¬ (¬ yt q = 0 ∧ yk q = x)) ∧ r = -1))) 0 0 (fun _ => False) := by
  refine Met.ofW (cc := cX1_latest) (maxL := 3) (ret := (some .int)) (by decide) rfl ?_
  intro p e s m args below meth c s₁ B hml hv
  obtain ⟨rfl, hP, hK⟩ := hv
  have hx := B.exec
  have hb := B.bytes
  have hr := B.returns
  have hts := atoms_spec (ws := wsX1_latest) B.pre
  have hown : s.vm.findClass RX1 = some m.cls := findClass_of_methodNamed B.named
  have hlocks := B.notSynchronized
  have h00 : ∀ w ∈ wsX10, w.before _ s = true := fun w h => hts w (List.mem_cons_of_mem _ (List.mem_append_right _ h))
  have L1 := hts (.fieldLink RX1 48 "SegmentLogModel" "end" "I") (List.mem_of_getElem? (i := 1) rfl)
  have L2 := hts (.fieldLink RX1 51 "SegmentLogModel" "start" "I") (List.mem_of_getElem? (i := 2) rfl)
  have L3 := hts (.fieldLink RX1 20 "SegmentLogModel" "there" "[Z") (List.mem_of_getElem? (i := 3) rfl)
  have L4 := hts (.fieldLink RX1 9 "SegmentLogModel" "keys" "[I") (List.mem_of_getElem? (i := 4) rfl)
  have L5 := hts (.fieldLink RX1 16 "SegmentLogModel" "removal" "[Z") (List.mem_of_getElem? (i := 5) rfl)
  have hl := lv_entry ([.ref (bd 0), .int x]) (n := 3) (Nat.le_of_ble_eq_true rfl)
  rw [lg_entry_eq]
  generalize (lg_sl ([.ref (bd 0), .int x]) ++ List.replicate (3 - (lg_sl ([.ref (bd 0), .int x])).length) Slot.unset).toArray = ls at hl ⊢
  have hl : lv_has ls 3 [(0, .ref (bd 0)), (1, .int x)] := hl
  refine lv_aload_n hx hb dX1_latest_0 rfl (lv_at hl 0 rfl) ?_
  refine va_get (D := (dC, dI)) (ci := 1) (v := .int (nI en)) (C := RX1) (T := TX1) (N := 13) hx hb h00 (fun _ h => h) hown hK hP 0 rfl rfl 8 (by decide) L1 (fun _ h9 => h9) rfl dX1_latest_1 ?_
  refine lv_iconst (v := 1) hx hb dX1_latest_4 (by decide) ?_
  refine lv_isub hx hb dX1_latest_5 ?_
  refine lv_istore_n (lv' := [(2, .int (nI en - 1)), (0, .ref (bd 0)), (1, .int x)]) hx hb dX1_latest_6 rfl hl (by decide) rfl (fun ls hl => ?_)
  have loop : ∀ (k : Nat) (ls : Array Slot), k ≤ en → (∀ q, k ≤ q → q < en → ¬ (¬ yt q = 0 ∧ yk q = x)) → lv_has ls 3 [(2, .int (nI k - 1)), (0, .ref (bd 0)), (1, .int x)] → W p l e (headSpec wsX1_latest ({ frames := 0, cells := 0, slots := 0, locals := 0 } : Room)).room s m ([.ref (bd 0), .int x] : List Value).toArray below meth c s.heap [] 0 0 (MQ below (vp_Si (fun r : Int32 => (∃ k, st ≤ k ∧ k < en ∧ ¬ yt k = 0 ∧ yk k = x ∧ (∀ q, k < q → q < en → ¬ (¬ yt q = 0 ∧ yk q = x)) ∧ ((yr k = 0 ∧ r = nI k) ∨ (¬ yr k = 0 ∧ r = -1))) ∨ ((∀ q, st ≤ q → q < en → ¬ (¬ yt q = 0 ∧ yk q = x)) ∧ r = -1))) ([.ref (bd 0), .int x] : List Value).toArray s 0 0 (fun _ => False)) (F0 m 7 ls []) := by
    intro k
    induction k with
    | zero =>
      intro ls h1 h2 hl
      refine lv_iload_n hx hb dX1_latest_7 rfl (lv_at hl 0 rfl) ?_
      refine lv_aload_n hx hb dX1_latest_8 rfl (lv_at hl 1 rfl) ?_
      refine va_get (D := (dC, dI)) (ci := 1) (v := .int (nI st)) (C := RX1) (T := TX1) (N := 13) hx hb h00 (fun _ h => h) hown hK hP 0 rfl rfl 7 (by decide) L2 (fun _ h9 => h9) rfl dX1_latest_9 ?_
      refine lv_icmp_lt (tgt := 55) hx hb dX1_latest_12 (by decide) (fun c1 => ?_) (fun c1 => ?_)
      · skip
        refine lv_iconst (v := (-1)) hx hb dX1_latest_55 (by decide) ?_
        exact W.iret (v := (-1)) hx hb hr (fun t ht hW => ⟨_, rfl, Or.inr ⟨fun q _ hq => h2 q (Nat.zero_le q) hq, rfl⟩, ht⟩) (fun _ h => by cases h) dX1_latest_56
      · skip
        exact absurd (Int32.lt_of_lt_of_le (by decide : nI 0 - 1 < 0) (nI_pos' (by omega : st < 2 ^ 31))) (fun h => c1 h)
    | succ k ih =>
      intro ls h1 h2 hl
      rw [nI_pred] at hl
      refine lv_iload_n hx hb dX1_latest_7 rfl (lv_at hl 0 rfl) ?_
      refine lv_aload_n hx hb dX1_latest_8 rfl (lv_at hl 1 rfl) ?_
      refine va_get (D := (dC, dI)) (ci := 1) (v := .int (nI st)) (C := RX1) (T := TX1) (N := 13) hx hb h00 (fun _ h => h) hown hK hP 0 rfl rfl 7 (by decide) L2 (fun _ h9 => h9) rfl dX1_latest_9 ?_
      refine lv_icmp_lt (tgt := 55) hx hb dX1_latest_12 (by decide) (fun c1 => ?_) (fun c1 => ?_)
      · skip
        have hc := q_lt (by omega) (by omega) c1
        refine lv_iconst (v := (-1)) hx hb dX1_latest_55 (by decide) ?_
        exact W.iret (v := (-1)) hx hb hr (fun t ht hW => ⟨_, rfl, Or.inr ⟨fun q q1 hq => h2 q (by omega) hq, rfl⟩, ht⟩) (fun _ h => by cases h) dX1_latest_56
      · skip
        have hc := q_nlt (by omega) (by omega) c1
        refine lv_aload_n hx hb dX1_latest_15 rfl (lv_at hl 1 rfl) ?_
        refine va_get (D := (dC, dI)) (ci := 1) (v := .ref (bd 4)) (C := RX1) (T := TX1) (N := 13) hx hb h00 (fun _ h => h) hown hK hP 0 rfl rfl 3 (by decide) L3 (fun _ h9 => h9) rfl dX1_latest_16 ?_
        refine lv_iload_n hx hb dX1_latest_19 rfl (lv_at hl 0 rfl) ?_
        refine qa_zald (i := k) hx hb hK hP 4 1 rfl rfl (by omega) (by decide) dX1_latest_20 ?_
        refine lv_if_eq (tgt := 49) hx hb dX1_latest_21 (by decide) (fun c2 => ?_) (fun c2 => ?_)
        · skip
          refine lv_iinc (v := nI k - 1) (lv' := [(2, .int (nI k - 1)), (0, .ref (bd 0)), (1, .int x)]) hx hb dX1_latest_49 hl (k := 0) rfl (qa_decm _) (by decide) rfl (fun ls hl => ?_)
          refine lv_goto (tgt := 7) hx hb dX1_latest_52 (by decide) ?_
          refine ih ls (by omega) (fun q q1 q2 => ?_) (lv_sub hl [0, 1, 2] rfl)
          rcases Nat.lt_or_ge k q with h | h
          · exact h2 q (by omega) q2
          · have : q = k := by omega
            subst this; exact fun h => h.1 c2
        · skip
          refine lv_aload_n hx hb dX1_latest_24 rfl (lv_at hl 1 rfl) ?_
          refine va_get (D := (dC, dI)) (ci := 1) (v := .ref (bd 1)) (C := RX1) (T := TX1) (N := 13) hx hb h00 (fun _ h => h) hown hK hP 0 rfl rfl 0 (by decide) L4 (fun _ h9 => h9) rfl dX1_latest_25 ?_
          refine lv_iload_n hx hb dX1_latest_28 rfl (lv_at hl 0 rfl) ?_
          refine qa_iald (i := k) hx hb hK hP 1 0 rfl rfl (by omega) (by decide) dX1_latest_29 ?_
          refine lv_iload_n hx hb dX1_latest_30 rfl (lv_at hl 2 rfl) ?_
          refine lv_icmp_ne (tgt := 49) hx hb dX1_latest_31 (by decide) (fun c3 => ?_) (fun c3 => ?_)
          · skip
            refine lv_iinc (v := nI k - 1) (lv' := [(2, .int (nI k - 1)), (0, .ref (bd 0)), (1, .int x)]) hx hb dX1_latest_49 hl (k := 0) rfl (qa_decm _) (by decide) rfl (fun ls hl => ?_)
            refine lv_goto (tgt := 7) hx hb dX1_latest_52 (by decide) ?_
            refine ih ls (by omega) (fun q q1 q2 => ?_) (lv_sub hl [0, 1, 2] rfl)
            rcases Nat.lt_or_ge k q with h | h
            · exact h2 q (by omega) q2
            · have : q = k := by omega
              subst this; exact fun h => c3 h.2
          · skip
            refine lv_aload_n hx hb dX1_latest_34 rfl (lv_at hl 1 rfl) ?_
            refine va_get (D := (dC, dI)) (ci := 1) (v := .ref (bd 3)) (C := RX1) (T := TX1) (N := 13) hx hb h00 (fun _ h => h) hown hK hP 0 rfl rfl 2 (by decide) L5 (fun _ h9 => h9) rfl dX1_latest_35 ?_
            refine lv_iload_n hx hb dX1_latest_38 rfl (lv_at hl 0 rfl) ?_
            refine qa_zald (i := k) hx hb hK hP 3 1 rfl rfl (by omega) (by decide) dX1_latest_39 ?_
            refine lv_if_eq (tgt := 47) hx hb dX1_latest_40 (by decide) (fun c4 => ?_) (fun c4 => ?_)
            · skip
              refine lv_iload_n hx hb dX1_latest_47 rfl (lv_at hl 0 rfl) ?_
              exact W.iret (v := nI k) hx hb hr (fun t ht hW => ⟨_, rfl, Or.inl ⟨k, hc, by omega, c2, c3, fun q q1 q2 => h2 q (by omega) q2, Or.inl ⟨c4, rfl⟩⟩, ht⟩) (fun _ h => by cases h) dX1_latest_48
            · skip
              refine lv_iconst (v := (-1)) hx hb dX1_latest_43 (by decide) ?_
              refine lv_goto (tgt := 48) hx hb dX1_latest_44 (by decide) ?_
              exact W.iret (v := (-1)) hx hb hr (fun t ht hW => ⟨_, rfl, Or.inl ⟨k, hc, by omega, c2, c3, fun q q1 q2 => h2 q (by omega) q2, Or.inr ⟨c4, rfl⟩⟩, ht⟩) (fun _ h => by cases h) dX1_latest_48
  exact loop en ls (Nat.le_refl en) (fun q h1 h2 => by omega) (lv_sub hl [0, 1, 2] rfl)
