def bi (b : Bool) : Int32 := if b then nI 1 else nI 0
theorem bi_t {b : Bool} (h : ¬ bi b = 0) : b = true := by cases b; exact absurd rfl h; rfl
theorem bi_f {b : Bool} (h : bi b = 0) : b = false := by cases b; rfl; exact absurd h (by decide)
theorem nb_bi (b : Bool) : vp_nar .boolean (bi b) = bi b := by cases b; exact nb_0; exact nb_1
/-- whether a cleaning takes the record k away, by the records k + 1 .. j - 1 -/
def gi (yk yt yr yl : Nat → Int32) (k j : Nat) : Bool := (!decide (yr k = 0) && !decide (yl k = 0)) || (List.range j).any (fun q => decide (k < q) && (!decide (yt q = 0) && decide (yk q = yk k)))
theorem gi_0 (yk yt yr yl : Nat → Int32) (k : Nat) : gi yk yt yr yl k (k + 1) = (!decide (yr k = 0) && !decide (yl k = 0)) := by
  unfold gi
  have : (List.range (k + 1)).any (fun q => decide (k < q) && (!decide (yt q = 0) && decide (yk q = yk k))) = false := by
    rw [List.any_eq_false]
    intro q hq
    have := List.mem_range.mp hq
    simp; omega
  rw [this, Bool.or_false]
theorem gi_s {yk yt yr yl : Nat → Int32} {k j : Nat} (h : k < j) : gi yk yt yr yl k (j + 1) = (gi yk yt yr yl k j || (!decide (yt j = 0) && decide (yk j = yk k))) := by
  unfold gi
  rw [List.range_succ, List.any_append, Bool.or_assoc]
  simp [h]
/-- the rows of 'there' and 'left' behind a cleaning of the places a .. i - 1 -/
def c2t (b : Nat → Bool) (f g : Nat → Int32) (a i : Nat) : Prop := ∀ q, g q = if a ≤ q ∧ q < i ∧ ¬ f q = 0 then bi (!b q) else f q
def c2l (f l g : Nat → Int32) (a i : Nat) : Prop := ∀ q, g q = if a ≤ q ∧ q < i ∧ ¬ f q = 0 then nI 1 else l q
theorem c2t_0 {b : Nat → Bool} {f : Nat → Int32} {a : Nat} : c2t b f f a a := fun q => by rw [if_neg (by omega)]
theorem c2l_0 {f l : Nat → Int32} {a : Nat} : c2l f l l a a := fun q => by rw [if_neg (by omega)]
theorem c2t_f {b : Nat → Bool} {f g : Nat → Int32} {a i : Nat} (h : c2t b f g a i) (h2 : f i = 0) : c2t b f g a (i + 1) := fun q => by
  rw [h q]
  by_cases e : q = i
  · subst e; rw [if_neg (fun h => h.2.2 h2), if_neg (fun h => h.2.2 h2)]
  · by_cases h3 : a ≤ q ∧ q < i ∧ ¬ f q = 0
    · rw [if_pos h3, if_pos ⟨h3.1, by omega, h3.2.2⟩]
    · rw [if_neg h3, if_neg (fun h => h3 ⟨h.1, by omega, h.2.2⟩)]
theorem c2l_f {f l g : Nat → Int32} {a i : Nat} (h : c2l f l g a i) (h2 : f i = 0) : c2l f l g a (i + 1) := fun q => by
  rw [h q]
  by_cases e : q = i
  · subst e; rw [if_neg (fun h => h.2.2 h2), if_neg (fun h => h.2.2 h2)]
  · by_cases h3 : a ≤ q ∧ q < i ∧ ¬ f q = 0
    · rw [if_pos h3, if_pos ⟨h3.1, by omega, h3.2.2⟩]
    · rw [if_neg h3, if_neg (fun h => h3 ⟨h.1, by omega, h.2.2⟩)]
theorem c2t_t {b : Nat → Bool} {f g : Nat → Int32} {a i : Nat} {v : Int32} (h : c2t b f g a i) (h1 : a ≤ i) (h2 : ¬ f i = 0) (hv : v = bi (!b i)) : c2t b f (upd g i v) a (i + 1) := fun q => by
  by_cases e : q = i
  · subst e; rw [pk_us, if_pos ⟨h1, by omega, h2⟩]; exact hv
  · rw [pk_un e, h q]
    by_cases h3 : a ≤ q ∧ q < i ∧ ¬ f q = 0
    · rw [if_pos h3, if_pos ⟨h3.1, by omega, h3.2.2⟩]
    · rw [if_neg h3, if_neg (fun h => h3 ⟨h.1, by omega, h.2.2⟩)]
theorem c2l_t {f l g : Nat → Int32} {a i : Nat} (h : c2l f l g a i) (h1 : a ≤ i) (h2 : ¬ f i = 0) : c2l f l (upd g i (nI 1)) a (i + 1) := fun q => by
  by_cases e : q = i
  · subst e; rw [pk_us, if_pos ⟨h1, by omega, h2⟩]
  · rw [pk_un e, h q]
    by_cases h3 : a ≤ q ∧ q < i ∧ ¬ f q = 0
    · rw [if_pos h3, if_pos ⟨h3.1, by omega, h3.2.2⟩]
    · rw [if_neg h3, if_neg (fun h => h3 ⟨h.1, by omega, h.2.2⟩)]
/-- the row of 'gone' for the places a .. i - 1 -/
def c1g (b : Nat → Bool) (f g : Nat → Int32) (a i : Nat) : Prop := ∀ q, a ≤ q → q < i → ¬ f q = 0 → g q = bi (b q)
theorem c1g_f {b : Nat → Bool} {f g : Nat → Int32} {a i : Nat} (h : c1g b f g a i) (h2 : f i = 0) : c1g b f g a (i + 1) := fun q q1 q2 q3 => by
  by_cases e : q = i
  · subst e; exact absurd h2 q3
  · exact h q q1 (by omega) q3
theorem c1g_t {b : Nat → Bool} {f g : Nat → Int32} {a i : Nat} (h : c1g b f g a i) : c1g b f (upd g i (bi (b i))) a (i + 1) := fun q q1 q2 q3 => by
  by_cases e : q = i
  · subst e; rw [pk_us]
  · rw [pk_un e]; exact h q q1 (by omega) q3
/-- how many go -/
def cg (b : Nat → Bool) (f : Nat → Int32) (a i : Nat) : Nat := cn (fun q => if b q then f q else 0) a i
theorem cg_f {b : Nat → Bool} {f : Nat → Int32} {a i : Nat} (h : f i = 0 ∨ b i = false) : cg b f a (i + 1) = cg b f a i := cn_f (by
  rcases h with h | h
  · by_cases e : b i = true
    · simp [e, h]
    · simp [e]
  · simp [h])
theorem cg_t {b : Nat → Bool} {f : Nat → Int32} {a i : Nat} (h1 : a ≤ i) (h2 : ¬ f i = 0) (h3 : b i = true) : cg b f a (i + 1) = cg b f a i + 1 := cn_t h1 (by simp [h3, h2])
set_option maxHeartbeats 4000000 in
set_option maxRecDepth 100000 in
theorem c1_compact (l : Launch) (dC : Nat → ClassId) (dI : Nat → Nat → Nat) (cI cZ : ClassId) (bd : Nat → Nat) (sz : Nat) (sg st en du th : Nat) (yk yv yr yt yl yb yp yg : Nat → Int32) (Bs : Nat → Nat) (hs : 1 ≤ sg) (hs2 : sg ≤ 4200) (hst : st ≤ 4200) (hbs : ∀ i, i < sg → yb i = nI (Bs i) ∧ Bs i ≤ 4200) : Met l yX1_compact wsX1_compact ({ frames := 1, cells := 0, slots := 0, locals := 30 } : Room) (va_Pc [.ref (bd 0)] (pr_w dC dI cI cZ (w1 cI cZ bd (sg, st, en, du, th, yk, yv, yr, yt, yl, yb, yp, yg)) sz)) (va_Qi (fun (r : Int32) (u : C1) => ∃ (k : Nat) (zt zl zg : Nat → Int32), k < sg ∧ (∀ i, k < i → i < sg → ¬ yb i ≤ nI du) ∧ (0 < k → yb k ≤ nI du) ∧ c2t (fun q => gi yk yt yr yl q (Bs k)) yt zt st (max st (Bs k)) ∧ c2l yt yl zl st (max st (Bs k)) ∧ r = nI (cg (fun q => gi yk yt yr yl q (Bs k)) yt st (max st (Bs k))) ∧ u = (sg, st, en, du, th, yk, yv, yr, zt, zl, yb, yp, zg)) (at1 dC dI cI cZ bd (va_A (w1 cI cZ bd (sg, st, en, du, th, yk, yv, yr, yt, yl, yb, yp, yg)) sz)) (va_A (w1 cI cZ bd (sg, st, en, du, th, yk, yv, yr, yt, yl, yb, yp, yg)) sz)) 0 0 (va_A (w1 cI cZ bd (sg, st, en, du, th, yk, yv, yr, yt, yl, yb, yp, yg)) sz) := by
  refine Met.ofW (cc := cX1_compact) (maxL := 6) (ret := (some .int)) (by decide) rfl ?_
  intro p e s m args below meth c s₁ B hml hv
  obtain ⟨rfl, hsz, hP, hK, hD0⟩ := hv
  have hx := B.exec
  have hb := B.bytes
  have hr := B.returns
  have hts := atoms_spec (ws := wsX1_compact) B.pre
  have hown : s.vm.findClass RX1 = some m.cls := findClass_of_methodNamed B.named
  have hlocks := B.notSynchronized
  have h00 : ∀ w ∈ wsX10, w.before _ s = true := fun w h => hts w (List.mem_cons_of_mem _ (List.mem_append_right _ h))
  have L1 := hts (.fieldLink RX1 51 "SegmentLogModel" "start" "I") (List.mem_of_getElem? (i := 1) rfl)
  have L2 := hts (.fieldLink RX1 20 "SegmentLogModel" "there" "[Z") (List.mem_of_getElem? (i := 2) rfl)
  have L3 := hts (.fieldLink RX1 16 "SegmentLogModel" "removal" "[Z") (List.mem_of_getElem? (i := 3) rfl)
  have L4 := hts (.fieldLink RX1 23 "SegmentLogModel" "left" "[Z") (List.mem_of_getElem? (i := 4) rfl)
  have L5 := hts (.fieldLink RX1 36 "SegmentLogModel" "gone" "[Z") (List.mem_of_getElem? (i := 5) rfl)
  subst hsz
  have hD := hD0.self (sz := s.heap.size)
  generalize hAe : va_A (w1 cI cZ bd (sg, st, en, du, th, yk, yv, yr, yt, yl, yb, yp, yg)) s.heap.size = A at hD ⊢
  have hA : ∀ q : Nat, s.heap.size ≤ q → A q := fun q h => by rw [← hAe]; exact Or.inr h
  have hS : va_S A s.heap s.heap [] := va_S.rf
  have hP : va_P (dC, dI) vwCl (w1 cI cZ bd (sg, st, en, du, th, yk, yv, yr, yt, yl, yb, yp, yg)) s.heap := hP
  have hl := lv_entry ([.ref (bd 0)]) (n := 6) (Nat.le_of_ble_eq_true rfl)
  rw [lg_entry_eq]
  generalize (lg_sl ([.ref (bd 0)]) ++ List.replicate (6 - (lg_sl ([.ref (bd 0)])).length) Slot.unset).toArray = ls at hl ⊢
  have hl : lv_has ls 6 [(0, .ref (bd 0))] := hl
  refine lv_aload_n hx hb dX1_compact_0 rfl (lv_at hl 0 rfl) ?_
  refine vp_callSi (W.runV (As := []) (rest := []) ⟨hx, hb, hml, hown, hts⟩ (c1_point l dC dI cI cZ bd sg st en du th yk yv yr yt yl yb yp yg  hs hs2) (cwV 0 hts gX1_compact_X1_point rfl rfl rfl (by decide +kernel) ⟨Nat.le_of_ble_eq_true rfl, Nat.le_of_ble_eq_true rfl⟩) ⟨bl_r, va_recv hK hP (ci := 1) (q0 := 0) rfl rfl, fun U hU hW => ⟨rfl, by rw [hU]; exact hP, va_K.moved hW.alike hK⟩⟩ rfl rfl hl.1 rfl (lv_room (Nat.le_of_ble_eq_true rfl)) dX1_compact_1 ⟨by decide, by decide⟩) (fun r1 hq => ?_)
  obtain ⟨k, hp1, hp4, hp2, hp3⟩ := hq
  rw [(hbs k hp1).1] at hp4
  subst hp4
  have hbk := (hbs k hp1).2
  obtain ⟨b, hbe⟩ : ∃ b : Nat → Bool, b = (fun q => gi yk yt yr yl q (Bs k)) := ⟨_, rfl⟩
  obtain ⟨pt, hpt⟩ : ∃ pt : Nat, pt = Bs k := ⟨_, rfl⟩
  rw [← hpt] at hbk
  refine qa_top (congrArg nI hpt.symm) ?_
  obtain ⟨mx, hmx⟩ : ∃ mx : Nat, mx = max st pt := ⟨_, rfl⟩
  have hmx2 : mx ≤ 4200 := by omega
  refine lv_istore_n (lv' := [(1, .int (nI pt)), (0, .ref (bd 0))]) hx hb dX1_compact_4 rfl hl (by decide) rfl (fun ls hl => ?_)
  refine lv_iconst (v := nI 0) hx hb dX1_compact_5 (by decide) ?_
  refine lv_istore_n (lv' := [(2, .int (nI 0)), (1, .int (nI pt)), (0, .ref (bd 0))]) hx hb dX1_compact_6 rfl hl (by decide) rfl (fun ls hl => ?_)
  refine lv_aload_n hx hb dX1_compact_7 rfl (lv_at hl 2 rfl) ?_
  refine va_get (D := (dC, dI)) (ci := 1) (v := .int (nI st)) (C := RX1) (T := TX1) (N := 13) hx hb h00 (fun _ h => h) hown hK hP 0 rfl rfl 7 (by decide) L1 (fun _ h9 => h9) rfl dX1_compact_8 ?_
  refine lv_istore_n (lv' := [(3, .int (nI st)), (2, .int (nI 0)), (1, .int (nI pt)), (0, .ref (bd 0))]) hx hb dX1_compact_11 rfl hl (by decide) rfl (fun ls hl => ?_)
  have stage2 : ∀ (zg : Nat → Int32) (H : Heap) (locs : List Loc) (ls : Array Slot), c1g b yt zg st mx → va_P (dC, dI) vwCl (w1 cI cZ bd (sg, st, en, du, th, yk, yv, yr, yt, yl, yb, yp, zg)) H → va_D A (w1 cI cZ bd (sg, st, en, du, th, yk, yv, yr, yt, yl, yb, yp, zg)) → va_S A s.heap H locs → lv_has ls 6 [(2, .int (nI (cg b yt st mx))), (1, .int (nI pt)), (0, .ref (bd 0))] → W p l e (headSpec wsX1_compact ({ frames := 1, cells := 0, slots := 0, locals := 30 } : Room)).room s m ([.ref (bd 0)] : List Value).toArray below meth c H locs 0 0 (MQ below (va_Qi (fun (r : Int32) (u : C1) => ∃ (k : Nat) (zt zl zg : Nat → Int32), k < sg ∧ (∀ i, k < i → i < sg → ¬ yb i ≤ nI du) ∧ (0 < k → yb k ≤ nI du) ∧ c2t (fun q => gi yk yt yr yl q (Bs k)) yt zt st (max st (Bs k)) ∧ c2l yt yl zl st (max st (Bs k)) ∧ r = nI (cg (fun q => gi yk yt yr yl q (Bs k)) yt st (max st (Bs k))) ∧ u = (sg, st, en, du, th, yk, yv, yr, zt, zl, yb, yp, zg)) (at1 dC dI cI cZ bd A) A) ([.ref (bd 0)] : List Value).toArray s 0 0 A) (F0 m 116 ls []) := by
    intro zg H locs ls g1 hP hD hS hl
    refine lv_aload_n hx hb dX1_compact_116 rfl (lv_at hl 2 rfl) ?_
    refine va_get (D := (dC, dI)) (ci := 1) (v := .int (nI st)) (C := RX1) (T := TX1) (N := 13) hx hb h00 (fun _ h => h) hown hK hP 0 rfl rfl 7 (by decide) L1 (fun _ h9 => h9) rfl dX1_compact_117 ?_
    refine lv_istore_n (lv' := [(3, .int (nI st)), (2, .int (nI (cg b yt st mx))), (1, .int (nI pt)), (0, .ref (bd 0))]) hx hb dX1_compact_120 rfl hl (by decide) rfl (fun ls hl => ?_)
    have loop2 : ∀ (z i : Nat) (zt zl : Nat → Int32) (H : Heap) (locs : List Loc) (ls : Array Slot), mx + 1 ≤ i + z → st ≤ i → i ≤ mx → c2t b yt zt st i → c2l yt yl zl st i → va_P (dC, dI) vwCl (w1 cI cZ bd (sg, st, en, du, th, yk, yv, yr, zt, zl, yb, yp, zg)) H → va_D A (w1 cI cZ bd (sg, st, en, du, th, yk, yv, yr, zt, zl, yb, yp, zg)) → va_S A s.heap H locs → lv_has ls 6 [(3, .int (nI i)), (2, .int (nI (cg b yt st mx))), (1, .int (nI pt)), (0, .ref (bd 0))] → W p l e (headSpec wsX1_compact ({ frames := 1, cells := 0, slots := 0, locals := 30 } : Room)).room s m ([.ref (bd 0)] : List Value).toArray below meth c H locs 0 0 (MQ below (va_Qi (fun (r : Int32) (u : C1) => ∃ (k : Nat) (zt zl zg : Nat → Int32), k < sg ∧ (∀ i, k < i → i < sg → ¬ yb i ≤ nI du) ∧ (0 < k → yb k ≤ nI du) ∧ c2t (fun q => gi yk yt yr yl q (Bs k)) yt zt st (max st (Bs k)) ∧ c2l yt yl zl st (max st (Bs k)) ∧ r = nI (cg (fun q => gi yk yt yr yl q (Bs k)) yt st (max st (Bs k))) ∧ u = (sg, st, en, du, th, yk, yv, yr, zt, zl, yb, yp, zg)) (at1 dC dI cI cZ bd A) A) ([.ref (bd 0)] : List Value).toArray s 0 0 A) (F0 m 121 ls []) := by
      intro z
      induction z with
      | zero => intro i zt zl H locs ls h1 h2 h3; omega
      | succ z ih =>
        intro i zt zl H locs ls p1 p2 p3 p4 p5 hP hD hS hl
        refine lv_iload_n hx hb dX1_compact_121 rfl (lv_at hl 0 rfl) ?_
        refine lv_iload_n hx hb dX1_compact_122 rfl (lv_at hl 2 rfl) ?_
        refine lv_icmp_ge (tgt := 171) hx hb dX1_compact_123 (by decide) (fun c1 => ?_) (fun c1 => ?_)
        · skip
          have hi := q_le (by omega) (by omega) c1
          have hi : i = mx := by omega
          subst hi
          refine lv_iload_n hx hb dX1_compact_171 rfl (lv_at hl 1 rfl) ?_
          subst hpt
          subst hbe
          subst hmx
          exact W.iret (v := nI (cg (fun q => gi yk yt yr yl q (Bs k)) yt st (max st (Bs k)))) hx hb hr (fun t ht hW => ⟨⟨_, (sg, st, en, du, th, yk, yv, yr, zt, zl, yb, yp, zg), rfl, ⟨k, zt, zl, zg, hp1, hp2, hp3, p4, p5, rfl, rfl⟩, by rw [ht]; exact hP, va_K.moved hW.alike hK, hD⟩, hS.F ht⟩) hS.2.2 dX1_compact_172
        · skip
          have hi := q_nle (by omega) (by omega) c1
          have hzi : zt i = yt i := by rw [p4 i, if_neg (fun h => Nat.lt_irrefl i h.2.1)]
          refine lv_aload_n hx hb dX1_compact_126 rfl (lv_at hl 3 rfl) ?_
          refine va_get (D := (dC, dI)) (ci := 1) (v := .ref (bd 4)) (C := RX1) (T := TX1) (N := 13) hx hb h00 (fun _ h => h) hown hK hP 0 rfl rfl 3 (by decide) L2 (fun _ h9 => h9) rfl dX1_compact_127 ?_
          refine lv_iload_n hx hb dX1_compact_130 rfl (lv_at hl 0 rfl) ?_
          refine qa_zald (i := i) hx hb hK hP 4 1 rfl rfl (by omega) (by decide) dX1_compact_131 ?_
          refine lv_if_ne (tgt := 138) hx hb dX1_compact_132 (by decide) (fun c2 => ?_) (fun c2 => ?_)
          · skip
            rw [hzi] at c2
            have hgi := g1 i p2 (by omega) c2
            refine lv_aload_n hx hb dX1_compact_138 rfl (lv_at hl 3 rfl) ?_
            refine va_get (D := (dC, dI)) (ci := 1) (v := .ref (bd 4)) (C := RX1) (T := TX1) (N := 13) hx hb h00 (fun _ h => h) hown hK hP 0 rfl rfl 3 (by decide) L2 (fun _ h9 => h9) rfl dX1_compact_139 ?_
            refine lv_iload_n hx hb dX1_compact_142 rfl (lv_at hl 0 rfl) ?_
            refine lv_aload_n hx hb dX1_compact_143 rfl (lv_at hl 3 rfl) ?_
            refine va_get (D := (dC, dI)) (ci := 1) (v := .ref (bd 8)) (C := RX1) (T := TX1) (N := 13) hx hb h00 (fun _ h => h) hown hK hP 0 rfl rfl 12 (by decide) L5 (fun _ h9 => h9) rfl dX1_compact_144 ?_
            refine lv_iload_n hx hb dX1_compact_147 rfl (lv_at hl 0 rfl) ?_
            refine qa_zald (i := i) hx hb hK hP 8 1 rfl rfl (by omega) (by decide) dX1_compact_148 ?_
            refine lv_if_ne (tgt := 156) hx hb dX1_compact_149 (by decide) (fun c3 => ?_) (fun c3 => ?_)
            · skip
              refine lv_iconst (v := nI 0) hx hb dX1_compact_156 (by decide) ?_
              refine qa_zast (i := i) hx hb hK hP hD hS 4 1 rfl rfl (by omega) (by decide) (by decide) dX1_compact_157 (fun H locs hP hD hS => ?_)
              have hP : va_P (dC, dI) vwCl (w1 cI cZ bd (sg, st, en, du, th, yk, yv, yr, (upd zt i (nI 0)), zl, yb, yp, zg)) H := hP
              have hD : va_D A (w1 cI cZ bd (sg, st, en, du, th, yk, yv, yr, (upd zt i (nI 0)), zl, yb, yp, zg)) := hD
              refine lv_aload_n hx hb dX1_compact_158 rfl (lv_at hl 3 rfl) ?_
              refine va_get (D := (dC, dI)) (ci := 1) (v := .ref (bd 5)) (C := RX1) (T := TX1) (N := 13) hx hb h00 (fun _ h => h) hown hK hP 0 rfl rfl 4 (by decide) L4 (fun _ h9 => h9) rfl dX1_compact_159 ?_
              refine lv_iload_n hx hb dX1_compact_162 rfl (lv_at hl 0 rfl) ?_
              refine lv_iconst (v := nI 1) hx hb dX1_compact_163 (by decide) ?_
              refine qa_zast (i := i) hx hb hK hP hD hS 5 1 rfl rfl (by omega) (by decide) (by decide) dX1_compact_164 (fun H locs hP hD hS => ?_)
              have hP : va_P (dC, dI) vwCl (w1 cI cZ bd (sg, st, en, du, th, yk, yv, yr, (upd zt i (nI 0)), (upd zl i (nI 1)), yb, yp, zg)) H := hP
              have hD : va_D A (w1 cI cZ bd (sg, st, en, du, th, yk, yv, yr, (upd zt i (nI 0)), (upd zl i (nI 1)), yb, yp, zg)) := hD
              refine lv_iinc (v := nI (i + 1)) (lv' := [(3, .int (nI (i + 1))), (2, .int (nI (cg b yt st mx))), (1, .int (nI pt)), (0, .ref (bd 0))]) hx hb dX1_compact_165 hl (k := 0) rfl (qa_inc1 i) (by decide) rfl (fun ls hl => ?_)
              refine lv_goto (tgt := 121) hx hb dX1_compact_168 (by decide) ?_
              exact ih (i + 1) _ _ _ _ ls (by omega) (by omega) (by omega) (c2t_t p4 p2 c2 (by rw [hgi] at c3; rw [bi_t c3]; rfl)) (c2l_t p5 p2 c2) hP hD hS (lv_sub hl [0, 1, 2, 3] rfl)
            · skip
              refine lv_iconst (v := nI 1) hx hb dX1_compact_152 (by decide) ?_
              refine lv_goto (tgt := 157) hx hb dX1_compact_153 (by decide) ?_
              refine qa_zast (i := i) hx hb hK hP hD hS 4 1 rfl rfl (by omega) (by decide) (by decide) dX1_compact_157 (fun H locs hP hD hS => ?_)
              have hP : va_P (dC, dI) vwCl (w1 cI cZ bd (sg, st, en, du, th, yk, yv, yr, (upd zt i (nI 1)), zl, yb, yp, zg)) H := hP
              have hD : va_D A (w1 cI cZ bd (sg, st, en, du, th, yk, yv, yr, (upd zt i (nI 1)), zl, yb, yp, zg)) := hD
              refine lv_aload_n hx hb dX1_compact_158 rfl (lv_at hl 3 rfl) ?_
              refine va_get (D := (dC, dI)) (ci := 1) (v := .ref (bd 5)) (C := RX1) (T := TX1) (N := 13) hx hb h00 (fun _ h => h) hown hK hP 0 rfl rfl 4 (by decide) L4 (fun _ h9 => h9) rfl dX1_compact_159 ?_
              refine lv_iload_n hx hb dX1_compact_162 rfl (lv_at hl 0 rfl) ?_
              refine lv_iconst (v := nI 1) hx hb dX1_compact_163 (by decide) ?_
              refine qa_zast (i := i) hx hb hK hP hD hS 5 1 rfl rfl (by omega) (by decide) (by decide) dX1_compact_164 (fun H locs hP hD hS => ?_)
              have hP : va_P (dC, dI) vwCl (w1 cI cZ bd (sg, st, en, du, th, yk, yv, yr, (upd zt i (nI 1)), (upd zl i (nI 1)), yb, yp, zg)) H := hP
              have hD : va_D A (w1 cI cZ bd (sg, st, en, du, th, yk, yv, yr, (upd zt i (nI 1)), (upd zl i (nI 1)), yb, yp, zg)) := hD
              refine lv_iinc (v := nI (i + 1)) (lv' := [(3, .int (nI (i + 1))), (2, .int (nI (cg b yt st mx))), (1, .int (nI pt)), (0, .ref (bd 0))]) hx hb dX1_compact_165 hl (k := 0) rfl (qa_inc1 i) (by decide) rfl (fun ls hl => ?_)
              refine lv_goto (tgt := 121) hx hb dX1_compact_168 (by decide) ?_
              exact ih (i + 1) _ _ _ _ ls (by omega) (by omega) (by omega) (c2t_t p4 p2 c2 (by rw [hgi] at c3; rw [bi_f c3]; rfl)) (c2l_t p5 p2 c2) hP hD hS (lv_sub hl [0, 1, 2, 3] rfl)
          · skip
            rw [hzi] at c2
            refine lv_goto (tgt := 165) hx hb dX1_compact_135 (by decide) ?_
            refine lv_iinc (v := nI (i + 1)) (lv' := [(3, .int (nI (i + 1))), (2, .int (nI (cg b yt st mx))), (1, .int (nI pt)), (0, .ref (bd 0))]) hx hb dX1_compact_165 hl (k := 0) rfl (qa_inc1 i) (by decide) rfl (fun ls hl => ?_)
            refine lv_goto (tgt := 121) hx hb dX1_compact_168 (by decide) ?_
            exact ih (i + 1) _ _ _ _ ls (by omega) (by omega) (by omega) (c2t_f p4 c2) (c2l_f p5 c2) hP hD hS (lv_sub hl [0, 1, 2, 3] rfl)
    exact loop2 (mx + 1) st yt yl _ _ ls (by omega) (Nat.le_refl st) (by omega) c2t_0 c2l_0 hP hD hS (lv_sub hl [0, 1, 2, 3] rfl)
  have loop : ∀ (z i : Nat) (zg : Nat → Int32) (H : Heap) (locs : List Loc) (ls : Array Slot), mx + 1 ≤ i + z → st ≤ i → i ≤ mx → c1g b yt zg st i → va_P (dC, dI) vwCl (w1 cI cZ bd (sg, st, en, du, th, yk, yv, yr, yt, yl, yb, yp, zg)) H → va_D A (w1 cI cZ bd (sg, st, en, du, th, yk, yv, yr, yt, yl, yb, yp, zg)) → va_S A s.heap H locs → lv_has ls 6 [(3, .int (nI i)), (2, .int (nI (cg b yt st i))), (1, .int (nI pt)), (0, .ref (bd 0))] → W p l e (headSpec wsX1_compact ({ frames := 1, cells := 0, slots := 0, locals := 30 } : Room)).room s m ([.ref (bd 0)] : List Value).toArray below meth c H locs 0 0 (MQ below (va_Qi (fun (r : Int32) (u : C1) => ∃ (k : Nat) (zt zl zg : Nat → Int32), k < sg ∧ (∀ i, k < i → i < sg → ¬ yb i ≤ nI du) ∧ (0 < k → yb k ≤ nI du) ∧ c2t (fun q => gi yk yt yr yl q (Bs k)) yt zt st (max st (Bs k)) ∧ c2l yt yl zl st (max st (Bs k)) ∧ r = nI (cg (fun q => gi yk yt yr yl q (Bs k)) yt st (max st (Bs k))) ∧ u = (sg, st, en, du, th, yk, yv, yr, zt, zl, yb, yp, zg)) (at1 dC dI cI cZ bd A) A) ([.ref (bd 0)] : List Value).toArray s 0 0 A) (F0 m 12 ls []) := by
    intro z
    induction z with
    | zero => intro i zg H locs ls h1 h2 h3; omega
    | succ z ih =>
      intro i zg H locs ls p1 p2 p3 p4 hP hD hS hl
      refine lv_iload_n hx hb dX1_compact_12 rfl (lv_at hl 0 rfl) ?_
      refine lv_iload_n hx hb dX1_compact_13 rfl (lv_at hl 2 rfl) ?_
      refine lv_icmp_ge (tgt := 116) hx hb dX1_compact_14 (by decide) (fun c1 => ?_) (fun c1 => ?_)
      · skip
        have hi := q_le (by omega) (by omega) c1
        have hi : i = mx := by omega
        subst hi
        exact stage2 zg H locs ls p4 hP hD hS (lv_sub hl [1, 2, 3] rfl)
      · skip
        have hi := q_nle (by omega) (by omega) c1
        refine lv_aload_n hx hb dX1_compact_17 rfl (lv_at hl 3 rfl) ?_
        refine va_get (D := (dC, dI)) (ci := 1) (v := .ref (bd 4)) (C := RX1) (T := TX1) (N := 13) hx hb h00 (fun _ h => h) hown hK hP 0 rfl rfl 3 (by decide) L2 (fun _ h9 => h9) rfl dX1_compact_18 ?_
        refine lv_iload_n hx hb dX1_compact_21 rfl (lv_at hl 0 rfl) ?_
        refine qa_zald (i := i) hx hb hK hP 4 1 rfl rfl (by omega) (by decide) dX1_compact_22 ?_
        refine lv_if_ne (tgt := 29) hx hb dX1_compact_23 (by decide) (fun c2 => ?_) (fun c2 => ?_)
        · skip
          have from54 : ∀ ls : Array Slot, lv_has ls 6 [(4, .int (bi (gi yk yt yr yl i (i + 1)))), (3, .int (nI i)), (2, .int (nI (cg b yt st i))), (1, .int (nI pt)), (0, .ref (bd 0))] → W p l e (headSpec wsX1_compact ({ frames := 1, cells := 0, slots := 0, locals := 30 } : Room)).room s m ([.ref (bd 0)] : List Value).toArray below meth c H locs 0 0 (MQ below (va_Qi (fun (r : Int32) (u : C1) => ∃ (k : Nat) (zt zl zg : Nat → Int32), k < sg ∧ (∀ i, k < i → i < sg → ¬ yb i ≤ nI du) ∧ (0 < k → yb k ≤ nI du) ∧ c2t (fun q => gi yk yt yr yl q (Bs k)) yt zt st (max st (Bs k)) ∧ c2l yt yl zl st (max st (Bs k)) ∧ r = nI (cg (fun q => gi yk yt yr yl q (Bs k)) yt st (max st (Bs k))) ∧ u = (sg, st, en, du, th, yk, yv, yr, zt, zl, yb, yp, zg)) (at1 dC dI cI cZ bd A) A) ([.ref (bd 0)] : List Value).toArray s 0 0 A) (F0 m 54 ls []) := by
            intro ls hl
            refine lv_iload_n hx hb dX1_compact_54 rfl (lv_at hl 1 rfl) ?_
            refine lv_iconst (v := nI 1) hx hb dX1_compact_55 (by decide) ?_
            refine lv_iadd hx hb dX1_compact_56 ?_
            refine qa_top (nI_add i 1) ?_
            refine lv_istore (lv' := [(5, .int (nI (i + 1))), (4, .int (bi (gi yk yt yr yl i (i + 1)))), (3, .int (nI i)), (2, .int (nI (cg b yt st i))), (1, .int (nI pt)), (0, .ref (bd 0))]) hx hb dX1_compact_57 hl (by decide) rfl (fun ls hl => ?_)
            have inner : ∀ (y j : Nat) (ls : Array Slot), pt + 1 ≤ j + y → i < j → j ≤ pt → lv_has ls 6 [(5, .int (nI j)), (4, .int (bi (gi yk yt yr yl i j))), (3, .int (nI i)), (2, .int (nI (cg b yt st i))), (1, .int (nI pt)), (0, .ref (bd 0))] → W p l e (headSpec wsX1_compact ({ frames := 1, cells := 0, slots := 0, locals := 30 } : Room)).room s m ([.ref (bd 0)] : List Value).toArray below meth c H locs 0 0 (MQ below (va_Qi (fun (r : Int32) (u : C1) => ∃ (k : Nat) (zt zl zg : Nat → Int32), k < sg ∧ (∀ i, k < i → i < sg → ¬ yb i ≤ nI du) ∧ (0 < k → yb k ≤ nI du) ∧ c2t (fun q => gi yk yt yr yl q (Bs k)) yt zt st (max st (Bs k)) ∧ c2l yt yl zl st (max st (Bs k)) ∧ r = nI (cg (fun q => gi yk yt yr yl q (Bs k)) yt st (max st (Bs k))) ∧ u = (sg, st, en, du, th, yk, yv, yr, zt, zl, yb, yp, zg)) (at1 dC dI cI cZ bd A) A) ([.ref (bd 0)] : List Value).toArray s 0 0 A) (F0 m 59 ls []) := by
              intro y
              induction y with
              | zero => intro j ls h1 h2 h3; omega
              | succ y ih2 =>
                intro j ls r1 r2 r3 hl
                refine lv_iload hx hb dX1_compact_59 (lv_at hl 0 rfl) ?_
                refine lv_iload_n hx hb dX1_compact_61 rfl (lv_at hl 4 rfl) ?_
                refine lv_icmp_ge (tgt := 93) hx hb dX1_compact_62 (by decide) (fun c5 => ?_) (fun c5 => ?_)
                · skip
                  have hj := q_le (by omega) (by omega) c5
                  have hj : j = pt := by omega
                  subst hj
                  have hbi : gi yk yt yr yl i j = b i := by rw [hbe, hpt]
                  rw [hbi] at hl
                  refine lv_iload hx hb dX1_compact_93 (lv_at hl 1 rfl) ?_
                  refine lv_if_eq (tgt := 102) hx hb dX1_compact_95 (by decide) (fun c6 => ?_) (fun c6 => ?_)
                  · skip
                    refine lv_aload_n hx hb dX1_compact_102 rfl (lv_at hl 5 rfl) ?_
                    refine va_get (D := (dC, dI)) (ci := 1) (v := .ref (bd 8)) (C := RX1) (T := TX1) (N := 13) hx hb h00 (fun _ h => h) hown hK hP 0 rfl rfl 12 (by decide) L5 (fun _ h9 => h9) rfl dX1_compact_103 ?_
                    refine lv_iload_n hx hb dX1_compact_106 rfl (lv_at hl 2 rfl) ?_
                    refine lv_iload hx hb dX1_compact_107 (lv_at hl 1 rfl) ?_
                    refine qa_zast (i := i) hx hb hK hP hD hS 8 1 rfl rfl (by omega) (by decide) (nb_bi (b i)) dX1_compact_109 (fun H locs hP hD hS => ?_)
                    have hP : va_P (dC, dI) vwCl (w1 cI cZ bd (sg, st, en, du, th, yk, yv, yr, yt, yl, yb, yp, (upd zg i (bi (b i))))) H := hP
                    have hD : va_D A (w1 cI cZ bd (sg, st, en, du, th, yk, yv, yr, yt, yl, yb, yp, (upd zg i (bi (b i))))) := hD
                    refine lv_iinc (v := nI (i + 1)) (lv' := [(3, .int (nI (i + 1))), (5, .int (nI j)), (4, .int (bi (b i))), (2, .int (nI (cg b yt st i))), (1, .int (nI j)), (0, .ref (bd 0))]) hx hb dX1_compact_110 hl (k := 2) rfl (qa_inc1 i) (by decide) rfl (fun ls hl => ?_)
                    refine lv_goto (tgt := 12) hx hb dX1_compact_113 (by decide) ?_
                    rw [← cg_f (b := b) (f := yt) (a := st) (i := i) (Or.inr (bi_f c6))] at hl
                    exact ih (i + 1) _ _ _ ls (by omega) (by omega) (by omega) (c1g_t p4) hP hD hS (lv_sub hl [0, 3, 4, 5] rfl)
                  · skip
                    refine lv_iload_n hx hb dX1_compact_98 rfl (lv_at hl 3 rfl) ?_
                    refine lv_iconst (v := nI 1) hx hb dX1_compact_99 (by decide) ?_
                    refine lv_iadd hx hb dX1_compact_100 ?_
                    refine qa_top (nI_add (cg b yt st i) 1) ?_
                    refine lv_istore_n (lv' := [(2, .int (nI (cg b yt st i + 1))), (5, .int (nI j)), (4, .int (bi (b i))), (3, .int (nI i)), (1, .int (nI j)), (0, .ref (bd 0))]) hx hb dX1_compact_101 rfl hl (by decide) rfl (fun ls hl => ?_)
                    refine lv_aload_n hx hb dX1_compact_102 rfl (lv_at hl 5 rfl) ?_
                    refine va_get (D := (dC, dI)) (ci := 1) (v := .ref (bd 8)) (C := RX1) (T := TX1) (N := 13) hx hb h00 (fun _ h => h) hown hK hP 0 rfl rfl 12 (by decide) L5 (fun _ h9 => h9) rfl dX1_compact_103 ?_
                    refine lv_iload_n hx hb dX1_compact_106 rfl (lv_at hl 3 rfl) ?_
                    refine lv_iload hx hb dX1_compact_107 (lv_at hl 2 rfl) ?_
                    refine qa_zast (i := i) hx hb hK hP hD hS 8 1 rfl rfl (by omega) (by decide) (nb_bi (b i)) dX1_compact_109 (fun H locs hP hD hS => ?_)
                    have hP : va_P (dC, dI) vwCl (w1 cI cZ bd (sg, st, en, du, th, yk, yv, yr, yt, yl, yb, yp, (upd zg i (bi (b i))))) H := hP
                    have hD : va_D A (w1 cI cZ bd (sg, st, en, du, th, yk, yv, yr, yt, yl, yb, yp, (upd zg i (bi (b i))))) := hD
                    refine lv_iinc (v := nI (i + 1)) (lv' := [(3, .int (nI (i + 1))), (2, .int (nI (cg b yt st i + 1))), (5, .int (nI j)), (4, .int (bi (b i))), (1, .int (nI j)), (0, .ref (bd 0))]) hx hb dX1_compact_110 hl (k := 3) rfl (qa_inc1 i) (by decide) rfl (fun ls hl => ?_)
                    refine lv_goto (tgt := 12) hx hb dX1_compact_113 (by decide) ?_
                    rw [← cg_t (b := b) (f := yt) p2 c2 (bi_t c6)] at hl
                    exact ih (i + 1) _ _ _ ls (by omega) (by omega) (by omega) (c1g_t p4) hP hD hS (lv_sub hl [0, 1, 4, 5] rfl)
                · skip
                  have hj := q_nle (by omega) (by omega) c5
                  refine lv_iload hx hb dX1_compact_65 (lv_at hl 1 rfl) ?_
                  refine lv_if_ne (tgt := 80) hx hb dX1_compact_67 (by decide) (fun c6 => ?_) (fun c6 => ?_)
                  · skip
                    refine lv_iconst (v := nI 1) hx hb dX1_compact_80 (by decide) ?_
                    refine lv_goto (tgt := 85) hx hb dX1_compact_81 (by decide) ?_
                    refine lv_istore (lv' := [(4, .int (nI 1)), (5, .int (nI j)), (3, .int (nI i)), (2, .int (nI (cg b yt st i))), (1, .int (nI pt)), (0, .ref (bd 0))]) hx hb dX1_compact_85 hl (by decide) rfl (fun ls hl => ?_)
                    refine lv_iinc (v := nI (j + 1)) (lv' := [(5, .int (nI (j + 1))), (4, .int (nI 1)), (3, .int (nI i)), (2, .int (nI (cg b yt st i))), (1, .int (nI pt)), (0, .ref (bd 0))]) hx hb dX1_compact_87 hl (k := 1) rfl (qa_inc1 j) (by decide) rfl (fun ls hl => ?_)
                    refine lv_goto (tgt := 59) hx hb dX1_compact_90 (by decide) ?_
                    have he : nI 1 = bi (gi yk yt yr yl i (j + 1)) := by rw [gi_s r2, bi_t c6]; rfl
                    rw [he] at hl
                    exact ih2 (j + 1) ls (by omega) (by omega) (by omega) (lv_sub hl [0, 1, 2, 3, 4, 5] rfl)
                  · skip
                    refine lv_aload_n hx hb dX1_compact_70 rfl (lv_at hl 5 rfl) ?_
                    refine lv_iload hx hb dX1_compact_71 (lv_at hl 0 rfl) ?_
                    refine lv_iload_n hx hb dX1_compact_73 rfl (lv_at hl 2 rfl) ?_
                    refine vp_callSi (W.runV (As := [.int (nI j), .int (nI i)]) (rest := []) ⟨hx, hb, hml, hown, hts⟩ (c1_isLater l dC dI cI cZ bd sg st en du th yk yv yr yt yl yb yp zg j i (by omega) (by omega)) (cwV 2 hts gX1_compact_X1_isLater rfl rfl rfl (by decide +kernel) ⟨Nat.le_of_ble_eq_true rfl, Nat.le_of_ble_eq_true rfl⟩) ⟨bl_r, va_recv hK hP (ci := 1) (q0 := 0) rfl rfl, fun U hU hW => ⟨rfl, by rw [hU]; exact hP, va_K.moved hW.alike hK⟩⟩ rfl rfl hl.1 rfl (lv_room (Nat.le_of_ble_eq_true rfl)) dX1_compact_74 ⟨by decide, by decide⟩) (fun rl hq => ?_)
                    rcases hq with ⟨rfl, hq1, hq2⟩ | ⟨rfl, hq⟩
                    · skip
                      refine lv_if_eq (tgt := 84) hx hb dX1_compact_77 (by decide) (fun c7 => ?_) (fun c7 => ?_)
                      · skip
                        exact absurd c7 (by decide)
                      · skip
                        refine lv_iconst (v := nI 1) hx hb dX1_compact_80 (by decide) ?_
                        refine lv_goto (tgt := 85) hx hb dX1_compact_81 (by decide) ?_
                        refine lv_istore (lv' := [(4, .int (nI 1)), (5, .int (nI j)), (3, .int (nI i)), (2, .int (nI (cg b yt st i))), (1, .int (nI pt)), (0, .ref (bd 0))]) hx hb dX1_compact_85 hl (by decide) rfl (fun ls hl => ?_)
                        refine lv_iinc (v := nI (j + 1)) (lv' := [(5, .int (nI (j + 1))), (4, .int (nI 1)), (3, .int (nI i)), (2, .int (nI (cg b yt st i))), (1, .int (nI pt)), (0, .ref (bd 0))]) hx hb dX1_compact_87 hl (k := 1) rfl (qa_inc1 j) (by decide) rfl (fun ls hl => ?_)
                        refine lv_goto (tgt := 59) hx hb dX1_compact_90 (by decide) ?_
                        have he : nI 1 = bi (gi yk yt yr yl i (j + 1)) := by rw [gi_s r2, decide_eq_false hq1, decide_eq_true hq2, Bool.not_false, Bool.and_true, Bool.or_true]; rfl
                        rw [he] at hl
                        exact ih2 (j + 1) ls (by omega) (by omega) (by omega) (lv_sub hl [0, 1, 2, 3, 4, 5] rfl)
                    · skip
                      refine lv_if_eq (tgt := 84) hx hb dX1_compact_77 (by decide) (fun c7 => ?_) (fun c7 => ?_)
                      · skip
                        refine lv_iconst (v := nI 0) hx hb dX1_compact_84 (by decide) ?_
                        refine lv_istore (lv' := [(4, .int (nI 0)), (5, .int (nI j)), (3, .int (nI i)), (2, .int (nI (cg b yt st i))), (1, .int (nI pt)), (0, .ref (bd 0))]) hx hb dX1_compact_85 hl (by decide) rfl (fun ls hl => ?_)
                        refine lv_iinc (v := nI (j + 1)) (lv' := [(5, .int (nI (j + 1))), (4, .int (nI 0)), (3, .int (nI i)), (2, .int (nI (cg b yt st i))), (1, .int (nI pt)), (0, .ref (bd 0))]) hx hb dX1_compact_87 hl (k := 1) rfl (qa_inc1 j) (by decide) rfl (fun ls hl => ?_)
                        refine lv_goto (tgt := 59) hx hb dX1_compact_90 (by decide) ?_
                        have he : nI 0 = bi (gi yk yt yr yl i (j + 1)) := by rw [gi_s r2, bi_f c6, Bool.false_or, show (!decide (yt j = 0) && decide (yk j = yk i)) = false from Bool.eq_false_iff.mpr (fun h => hq (by simpa using h))]; rfl
                        rw [he] at hl
                        exact ih2 (j + 1) ls (by omega) (by omega) (by omega) (lv_sub hl [0, 1, 2, 3, 4, 5] rfl)
                      · skip
                        exact absurd rfl c7
            exact inner pt (i + 1) ls (by omega) (by omega) (by omega) (lv_sub hl [0, 1, 2, 3, 4, 5] rfl)
          refine lv_aload_n hx hb dX1_compact_29 rfl (lv_at hl 3 rfl) ?_
          refine va_get (D := (dC, dI)) (ci := 1) (v := .ref (bd 3)) (C := RX1) (T := TX1) (N := 13) hx hb h00 (fun _ h => h) hown hK hP 0 rfl rfl 2 (by decide) L3 (fun _ h9 => h9) rfl dX1_compact_30 ?_
          refine lv_iload_n hx hb dX1_compact_33 rfl (lv_at hl 0 rfl) ?_
          refine qa_zald (i := i) hx hb hK hP 3 1 rfl rfl (by omega) (by decide) dX1_compact_34 ?_
          refine lv_if_eq (tgt := 51) hx hb dX1_compact_35 (by decide) (fun c3 => ?_) (fun c3 => ?_)
          · skip
            refine lv_iconst (v := nI 0) hx hb dX1_compact_51 (by decide) ?_
            refine lv_istore (lv' := [(4, .int (nI 0)), (3, .int (nI i)), (2, .int (nI (cg b yt st i))), (1, .int (nI pt)), (0, .ref (bd 0))]) hx hb dX1_compact_52 hl (by decide) rfl (fun ls hl => ?_)
            exact from54 ls (by rw [gi_0, decide_eq_true c3]; exact (lv_sub hl [0, 1, 2, 3, 4] rfl))
          · skip
            refine lv_aload_n hx hb dX1_compact_38 rfl (lv_at hl 3 rfl) ?_
            refine va_get (D := (dC, dI)) (ci := 1) (v := .ref (bd 5)) (C := RX1) (T := TX1) (N := 13) hx hb h00 (fun _ h => h) hown hK hP 0 rfl rfl 4 (by decide) L4 (fun _ h9 => h9) rfl dX1_compact_39 ?_
            refine lv_iload_n hx hb dX1_compact_42 rfl (lv_at hl 0 rfl) ?_
            refine qa_zald (i := i) hx hb hK hP 5 1 rfl rfl (by omega) (by decide) dX1_compact_43 ?_
            refine lv_if_eq (tgt := 51) hx hb dX1_compact_44 (by decide) (fun c4 => ?_) (fun c4 => ?_)
            · skip
              refine lv_iconst (v := nI 0) hx hb dX1_compact_51 (by decide) ?_
              refine lv_istore (lv' := [(4, .int (nI 0)), (3, .int (nI i)), (2, .int (nI (cg b yt st i))), (1, .int (nI pt)), (0, .ref (bd 0))]) hx hb dX1_compact_52 hl (by decide) rfl (fun ls hl => ?_)
              exact from54 ls (by rw [gi_0, decide_eq_true c4, Bool.not_true, Bool.and_false]; exact (lv_sub hl [0, 1, 2, 3, 4] rfl))
            · skip
              refine lv_iconst (v := nI 1) hx hb dX1_compact_47 (by decide) ?_
              refine lv_goto (tgt := 52) hx hb dX1_compact_48 (by decide) ?_
              refine lv_istore (lv' := [(4, .int (nI 1)), (3, .int (nI i)), (2, .int (nI (cg b yt st i))), (1, .int (nI pt)), (0, .ref (bd 0))]) hx hb dX1_compact_52 hl (by decide) rfl (fun ls hl => ?_)
              exact from54 ls (by rw [gi_0, decide_eq_false c3, decide_eq_false c4]; exact (lv_sub hl [0, 1, 2, 3, 4] rfl))
        · skip
          refine lv_goto (tgt := 110) hx hb dX1_compact_26 (by decide) ?_
          refine lv_iinc (v := nI (i + 1)) (lv' := [(3, .int (nI (i + 1))), (2, .int (nI (cg b yt st i))), (1, .int (nI pt)), (0, .ref (bd 0))]) hx hb dX1_compact_110 hl (k := 0) rfl (qa_inc1 i) (by decide) rfl (fun ls hl => ?_)
          refine lv_goto (tgt := 12) hx hb dX1_compact_113 (by decide) ?_
          rw [← cg_f (b := b) (f := yt) (a := st) (i := i) (Or.inl c2)] at hl
          exact ih (i + 1) _ _ _ ls (by omega) (by omega) (by omega) (c1g_f p4 c2) hP hD hS (lv_sub hl [0, 1, 2, 3] rfl)
  have hl : lv_has ls 6 [(3, .int (nI st)), (2, .int (nI (cg b yt st st))), (1, .int (nI pt)), (0, .ref (bd 0))] := by unfold cg; rw [cn_0 _ (Nat.le_refl st)]; exact hl
  exact loop (mx + 1) st yg _ _ ls (by omega) (Nat.le_refl st) (by omega) (fun q q1 q2 => by omega) hP hD hS hl
