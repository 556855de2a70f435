/-- the law's world: the class's cells, the reference's, the row for an answer -/
abbrev wL (cI cZ cJ : ClassId) (ad bd : Nat → Nat) (qo : Nat) (u0 : C0) (u1 : C1) (fl : Nat → Int64) : va_W := w0 cI cZ ad u0 ++ (w1 cI cZ bd u1 ++ [(qo, .inl (cJ, 1, .inr (.inl fl)))])
/-- what holds all along the law -/
def lwC (p : Program) (l : Launch) (s : State) (m : MethodId) (c : Code) (dC : Nat → ClassId) (dI : Nat → Nat → Nat) (cI cZ cJ : ClassId) (b L : Nat) (xs : Nat → Int32) (sa sb : Nat) : Prop := p.tables.exec = Jvm.exec ∧ c.code = cL_law ∧ c.maxLocals = 7 ∧ s.vm.findClass RL = some m.cls ∧ (∀ w ∈ wsL_law, w.before #[Value.ref b] s = true) ∧ va_X b L xs s s.heap ∧ b < s.heap.size ∧ va_K (dC, dI) vwCl (ktl cI cZ cJ) s ∧ tp (fun q : Nat => s.heap.size ≤ q) sa sb s s.heap ∧ l.stackTraces = false ∧ L ≤ 1536
/-- the law at pc, with k calls done and i to be the next's number -/
def lwG (p : Program) (l : Launch) (e : Env) (s : State) (m : MethodId) (below : List Frame) (meth : Method) (c : Code) (dC : Nat → ClassId) (dI : Nat → Nat → Nat) (cI cZ cJ : ClassId) (ad bd : Nat → Nat) (qo b : Nat) (pc k i : Nat) : Prop := ∀ (u0 : C0) (u1 : C1) (fl : Nat → Int64) (H : Heap) (locs : List Loc) (ls : Array Slot), Rel k u0 u1 → va_P (dC, dI) vwCl (wL cI cZ cJ ad bd qo u0 u1 fl) H → va_D (fun q : Nat => s.heap.size ≤ q) (wL cI cZ cJ ad bd qo u0 u1 fl) → va_S (fun q : Nat => s.heap.size ≤ q) s.heap H locs → lv_has ls 7 [(0, .ref b), (1, .ref (ad 0)), (2, .ref (bd 0)), (3, .ref qo), (4, .int (nI (3 * i)))] → W p l e room_1 s m #[Value.ref b] below meth c H locs (20 + k) (30400 + 6 * k) (lw_Z below #[Value.ref b] s) (F0 m pc ls [])
section QS
variable {p : Program} {l : Launch} {e : Env} {R : Room} {s : State} {m : MethodId} {args : Array Value} {below : List Frame} {meth : Method} {c : Code} {H : Heap} {locs : List Loc} {cells slots : Nat} {Q : State → Prop}
variable {cc : ByteArray} {pc : Nat} {ls : Array Slot} {rest : List Value} {A : Nat → Prop} {H0 : Heap}
theorem qa_sld {i : Nat} (hexec : p.tables.exec = Jvm.exec) (hb : c.code = cc) {b L : Nat} {xs : Nat → Int32} (hX : va_X b L xs s H0) (hbl : b < H0.size) (hbA : ¬ A b) (hS : va_S A H0 H locs) (hi : i < L) (hL : L < 2 ^ 31) (hdg : decode cc pc = .ok (.iaload, 1))
    (kk : W p l e R s m args below meth c H locs cells slots Q (F0 m (pc + 1) ls (.int (xs i) :: rest))) : W p l e R s m args below meth c H locs cells slots Q (F0 m pc ls (.int (nI i) :: .ref b :: rest)) := by
  refine va_sld hexec hb hX hbl hbA hS (vp_in_nI hi hL) hdg ?_
  rw [nI_clamp (Nat.lt_trans hi hL)]; exact kk
end QS
theorem nb_of {n en : Nat} {fo fk fv fr fc yk yv yr yt yl : Nat → Int32} {O K : Nat → Nat} (h : Rr n en fo fk fv fr fc yk yv yr yt yl O K) : nb fr n ∧ nb fc n := by
  refine ⟨fun q hq => ?_, fun q hq => ?_⟩
  · rcases (h q hq).2.2.2.2.2.2.2.2.1 with e | e
    · rw [e]; exact nb_0
    · rw [e.1]; exact nb_1
  · rcases (h q hq).2.2.2.2.2.2.2.2.2 with e | e
    · rw [e]; exact nb_0
    · rw [e]; exact nb_1
theorem lcmp_0 (x : Int64) : lg_cmp x x = 0 := by
  unfold lg_cmp
  simp
section LAW
variable {p : Program} {l : Launch} {e : Env} {s : State} {m : MethodId} {below : List Frame} {meth : Method} {c : Code} {dC : Nat → ClassId} {dI : Nat → Nat → Nat} {cI cZ cJ : ClassId} {ad bd : Nat → Nat} {qo b L sa sb : Nat} {xs : Nat → Int32}
set_option maxHeartbeats 4000000 in
set_option maxRecDepth 100000 in
theorem law_c0 (hC : lwC p l s m c dC dI cI cZ cJ b L xs sa sb) {i : Nat} (hi : 3 * i + 3 ≤ L) (hk : lwG p l e s m below meth c dC dI cI cZ cJ ad bd qo b 622 (i + 1) i) {n sc st en du th : Nat} {fo fk fv fr fc fb fp ft yk yv yr yt yl yb yp yg : Nat → Int32} {fl : Nat → Int64} {H : Heap} {locs : List Loc} {ls : Array Slot} (hR : Rel i (n, sc, st, en, du, fo, fk, fv, fr, fc, fb, fp, ft) (sc, st, en, du, th, yk, yv, yr, yt, yl, yb, yp, yg)) (hP : va_P (dC, dI) vwCl (wL cI cZ cJ ad bd qo (n, sc, st, en, du, fo, fk, fv, fr, fc, fb, fp, ft) (sc, st, en, du, th, yk, yv, yr, yt, yl, yb, yp, yg) fl) H) (hD : va_D (fun q : Nat => s.heap.size ≤ q) (wL cI cZ cJ ad bd qo (n, sc, st, en, du, fo, fk, fv, fr, fc, fb, fp, ft) (sc, st, en, du, th, yk, yv, yr, yt, yl, yb, yp, yg) fl)) (hS : va_S (fun q : Nat => s.heap.size ≤ q) s.heap H locs) (hl : lv_has ls 7 [(0, .ref b), (1, .ref (ad 0)), (2, .ref (bd 0)), (3, .ref qo), (4, .int (nI (3 * i)))]) : W p l e room_1 s m #[Value.ref b] below meth c H locs (20 + i) (30400 + 6 * i) (lw_Z below #[Value.ref b] s) (F0 m 132 ls []) := by
  obtain ⟨hx, hb, hml, hown, hts, hX, hbl, hK, hT, hlt, hL⟩ := hC
  have hA : ∀ q : Nat, s.heap.size ≤ q → (fun q : Nat => s.heap.size ≤ q) q := fun _ h => h
  have hbA : ¬ (fun q : Nat => s.heap.size ≤ q) b := Nat.not_le.mpr hbl
  obtain ⟨-, -, -, -, hn, hy, ⟨Bs, hbs⟩, ⟨Ps, hps⟩, O, K, hrr⟩ := id hR
  obtain ⟨n1, n2, n3, n4, n5, n6⟩ := id hn
  have hKc := hK.sub (tys' := kt cI cZ) [0, 1] rfl
  refine lv_aload_n hx hb dL_law_132 rfl (lv_at hl 1 rfl) ?_
  refine lv_aload_n hx hb dL_law_133 rfl (lv_at hl 0 rfl) ?_
  refine lv_iload hx hb dL_law_134 (lv_at hl 4 rfl) ?_
  refine lv_iconst (v := nI 1) hx hb dL_law_136 (by decide) ?_
  refine lv_iadd hx hb dL_law_137 ?_
  refine qa_top (nI_add (3 * i) 1) ?_
  refine qa_sld (i := 3 * i + 1) hx hb hX hbl hbA hS (by omega) (by omega) dL_law_138 ?_
  refine lv_aload_n hx hb dL_law_139 rfl (lv_at hl 0 rfl) ?_
  refine lv_iload hx hb dL_law_140 (lv_at hl 4 rfl) ?_
  refine lv_iconst (v := nI 2) hx hb dL_law_142 (by decide) ?_
  refine lv_iadd hx hb dL_law_143 ?_
  refine qa_top (nI_add (3 * i) 2) ?_
  refine qa_sld (i := 3 * i + 2) hx hb hX hbl hbA hS (by omega) (by omega) dL_law_144 ?_
  have hPc := hP.sub (ws' := (w0 cI cZ ad (n, sc, st, en, du, fo, fk, fv, fr, fc, fb, fp, ft))) [0, 1, 2, 3, 4, 5, 6, 7, 8] rfl
  have hDc := hD.sub (ws' := (w0 cI cZ ad (n, sc, st, en, du, fo, fk, fv, fr, fc, fb, fp, ft))) [0, 1, 2, 3, 4, 5, 6, 7, 8] (by decide) rfl
  have hFc := va_free (wc := (w0 cI cZ ad (n, sc, st, en, du, fo, fk, fv, fr, fc, fb, fp, ft))) hD hS hA [0, 1, 2, 3, 4, 5, 6, 7, 8] rfl
  refine va_calli (va_runV (As := [.int (xs (3 * i + 1)), .int (xs (3 * i + 2))]) (rest := []) ⟨hx, hb, hml, hown, hts⟩ (c0_append l dC dI cI cZ ad H.size n sc st en du fo fk fv fr fc fb fp ft (xs (3 * i + 1)) (xs (3 * i + 2)) (Bs (sc - 1)) (by omega) (by omega) n6 (by omega) (hbs.2.1 (sc - 1) (by omega)).1 (hbs.2.1 (sc - 1) (by omega)).2.2) (cwV 2 hts gL_law_X0_append rfl rfl rfl (by decide +kernel) ⟨Nat.le_of_ble_eq_true rfl, Nat.le_of_ble_eq_true rfl⟩) ⟨bl_w, va_recv hKc hPc (ci := 0) (q0 := 0) rfl rfl, fun U hU hW => ⟨rfl, by rw [hU], by rw [hU]; exact hPc, va_K.moved hW.alike hKc, hDc.weaken (fun _ _ _ _ => trivial)⟩⟩ rfl rfl hl.1 rfl (lv_room (Nat.le_of_ble_eq_true rfl)) dL_law_145 ⟨by show 20 + i + 0 ≤ 1045; omega, by show 30400 + 6 * i + 0 ≤ 38468; omega⟩) hS (fun q _ h => hFc q h) hFc (fun r0 u9 t H1 locs ht hvm q0 hB hz1 hk1 hS => ?_)
  obtain ⟨n8, sc8, st8, en8, du8, fo8, fk8, fv8, fr8, fc8, fb8, fp8, ft8⟩ := u9
  obtain ⟨hP1, hK1, hD1⟩ := hB
  rw [ht] at hP1
  obtain ⟨hP, hD⟩ := va_join (wr := (w1 cI cZ bd (sc, st, en, du, th, yk, yv, yr, yt, yl, yb, yp, yg) ++ [(qo, .inl (cJ, 1, .inr (.inl fl)))])) (w1 := (w0 cI cZ ad (n8, sc8, st8, en8, du8, fo8, fk8, fv8, fr8, fc8, fb8, fp8, ft8))) hP hD [0, 1, 2, 3, 4, 5, 6, 7, 8] [9, 10, 11, 12, 13, 14, 15, 16, 17, 18] rfl rfl (by decide) (by decide) hk1 hFc hP1 hD1
  have hP := hP.sub (ws' := (wL cI cZ cJ ad bd qo (n8, sc8, st8, en8, du8, fo8, fk8, fv8, fr8, fc8, fb8, fp8, ft8) (sc, st, en, du, th, yk, yv, yr, yt, yl, yb, yp, yg) fl)) [10, 11, 12, 13, 14, 15, 16, 17, 18, 0, 1, 2, 3, 4, 5, 6, 7, 8, 9] rfl
  have hD := hD.sub (ws' := (wL cI cZ cJ ad bd qo (n8, sc8, st8, en8, du8, fo8, fk8, fv8, fr8, fc8, fb8, fp8, ft8) (sc, st, en, du, th, yk, yv, yr, yt, yl, yb, yp, yg) fl)) [10, 11, 12, 13, 14, 15, 16, 17, 18, 0, 1, 2, 3, 4, 5, 6, 7, 8, 9] (by decide) rfl
  generalize H1 = H at hP hS ⊢
  refine lv_aload_n hx hb dL_law_148 rfl (lv_at hl 2 rfl) ?_
  refine lv_aload_n hx hb dL_law_149 rfl (lv_at hl 0 rfl) ?_
  refine lv_iload hx hb dL_law_150 (lv_at hl 4 rfl) ?_
  refine lv_iconst (v := nI 1) hx hb dL_law_152 (by decide) ?_
  refine lv_iadd hx hb dL_law_153 ?_
  refine qa_top (nI_add (3 * i) 1) ?_
  refine qa_sld (i := 3 * i + 1) hx hb hX hbl hbA hS (by omega) (by omega) dL_law_154 ?_
  refine lv_aload_n hx hb dL_law_155 rfl (lv_at hl 0 rfl) ?_
  refine lv_iload hx hb dL_law_156 (lv_at hl 4 rfl) ?_
  refine lv_iconst (v := nI 2) hx hb dL_law_158 (by decide) ?_
  refine lv_iadd hx hb dL_law_159 ?_
  refine qa_top (nI_add (3 * i) 2) ?_
  refine qa_sld (i := 3 * i + 2) hx hb hX hbl hbA hS (by omega) (by omega) dL_law_160 ?_
  have hPc := hP.sub (ws' := (w1 cI cZ bd (sc, st, en, du, th, yk, yv, yr, yt, yl, yb, yp, yg))) [9, 10, 11, 12, 13, 14, 15, 16, 17] rfl
  have hDc := hD.sub (ws' := (w1 cI cZ bd (sc, st, en, du, th, yk, yv, yr, yt, yl, yb, yp, yg))) [9, 10, 11, 12, 13, 14, 15, 16, 17] (by decide) rfl
  have hFc := va_free (wc := (w1 cI cZ bd (sc, st, en, du, th, yk, yv, yr, yt, yl, yb, yp, yg))) hD hS hA [9, 10, 11, 12, 13, 14, 15, 16, 17] rfl
  refine va_calli (va_runV (As := [.int (xs (3 * i + 1)), .int (xs (3 * i + 2))]) (rest := [.int r0]) ⟨hx, hb, hml, hown, hts⟩ (c1_append l dC dI cI cZ bd H.size sc st en du th yk yv yr yt yl yb yp yg (xs (3 * i + 1)) (xs (3 * i + 2)) (Bs (sc - 1)) (by omega) (by omega) (by omega) (by omega) (hbs.2.1 (sc - 1) (by omega)).2.1 (hbs.2.1 (sc - 1) (by omega)).2.2) (cwV 2 hts gL_law_X1_append rfl rfl rfl (by decide +kernel) ⟨Nat.le_of_ble_eq_true rfl, Nat.le_of_ble_eq_true rfl⟩) ⟨bl_w, va_recv hKc hPc (ci := 1) (q0 := 0) rfl rfl, fun U hU hW => ⟨rfl, by rw [hU], by rw [hU]; exact hPc, va_K.moved hW.alike hKc, hDc.weaken (fun _ _ _ _ => trivial)⟩⟩ rfl rfl hl.1 rfl (lv_room (Nat.le_of_ble_eq_true rfl)) dL_law_161 ⟨by show 20 + i + 0 ≤ 1045; omega, by show 30400 + 6 * i + 0 ≤ 38468; omega⟩) hS (fun q _ h => hFc q h) hFc (fun r1 v9 t H1 locs ht hvm q1 hB hz1 hk1 hS => ?_)
  obtain ⟨sg3, st3, en3, du3, th3, yk3, yv3, yr3, yt3, yl3, yb3, yp3, yg3⟩ := v9
  obtain ⟨hP1, hK1, hD1⟩ := hB
  rw [ht] at hP1
  obtain ⟨hP, hD⟩ := va_join (wr := (w0 cI cZ ad (n8, sc8, st8, en8, du8, fo8, fk8, fv8, fr8, fc8, fb8, fp8, ft8) ++ [(qo, .inl (cJ, 1, .inr (.inl fl)))])) (w1 := (w1 cI cZ bd (sg3, st3, en3, du3, th3, yk3, yv3, yr3, yt3, yl3, yb3, yp3, yg3))) hP hD [9, 10, 11, 12, 13, 14, 15, 16, 17] [0, 1, 2, 3, 4, 5, 6, 7, 8, 18] rfl rfl (by decide) (by decide) hk1 hFc hP1 hD1
  have hP := hP.sub (ws' := (wL cI cZ cJ ad bd qo (n8, sc8, st8, en8, du8, fo8, fk8, fv8, fr8, fc8, fb8, fp8, ft8) (sg3, st3, en3, du3, th3, yk3, yv3, yr3, yt3, yl3, yb3, yp3, yg3) fl)) [0, 1, 2, 3, 4, 5, 6, 7, 8, 10, 11, 12, 13, 14, 15, 16, 17, 18, 9] rfl
  have hD := hD.sub (ws' := (wL cI cZ cJ ad bd qo (n8, sc8, st8, en8, du8, fo8, fk8, fv8, fr8, fc8, fb8, fp8, ft8) (sg3, st3, en3, du3, th3, yk3, yv3, yr3, yt3, yl3, yb3, yp3, yg3) fl)) [0, 1, 2, 3, 4, 5, 6, 7, 8, 10, 11, 12, 13, 14, 15, 16, 17, 18, 9] (by decide) rfl
  generalize H1 = H at hP hS ⊢
  have heq := app_eq hR hbs (Or.inl rfl) q0 q1
  refine lv_icmp_eq (tgt := 622) hx hb dL_law_164 (by decide) (fun c1 => ?_) (fun c1 => ?_)
  · refine W.widen (k := 20 + (i + 1)) (n := 30400 + 6 * (i + 1)) (by omega) (by omega) ?_
    exact hk _ _ _ _ _ ls (heq.2) hP hD hS (lv_sub hl [0, 1, 2, 3, 4] rfl)
  · exact absurd (heq.1) c1
set_option maxHeartbeats 4000000 in
set_option maxRecDepth 100000 in
theorem law_c1 (hC : lwC p l s m c dC dI cI cZ cJ b L xs sa sb) {i : Nat} (hi : 3 * i + 3 ≤ L) (hk : lwG p l e s m below meth c dC dI cI cZ cJ ad bd qo b 622 (i + 1) i) {n sc st en du th : Nat} {fo fk fv fr fc fb fp ft yk yv yr yt yl yb yp yg : Nat → Int32} {fl : Nat → Int64} {H : Heap} {locs : List Loc} {ls : Array Slot} (hR : Rel i (n, sc, st, en, du, fo, fk, fv, fr, fc, fb, fp, ft) (sc, st, en, du, th, yk, yv, yr, yt, yl, yb, yp, yg)) (hP : va_P (dC, dI) vwCl (wL cI cZ cJ ad bd qo (n, sc, st, en, du, fo, fk, fv, fr, fc, fb, fp, ft) (sc, st, en, du, th, yk, yv, yr, yt, yl, yb, yp, yg) fl) H) (hD : va_D (fun q : Nat => s.heap.size ≤ q) (wL cI cZ cJ ad bd qo (n, sc, st, en, du, fo, fk, fv, fr, fc, fb, fp, ft) (sc, st, en, du, th, yk, yv, yr, yt, yl, yb, yp, yg) fl)) (hS : va_S (fun q : Nat => s.heap.size ≤ q) s.heap H locs) (hl : lv_has ls 7 [(0, .ref b), (1, .ref (ad 0)), (2, .ref (bd 0)), (3, .ref qo), (4, .int (nI (3 * i)))]) : W p l e room_1 s m #[Value.ref b] below meth c H locs (20 + i) (30400 + 6 * i) (lw_Z below #[Value.ref b] s) (F0 m 169 ls []) := by
  obtain ⟨hx, hb, hml, hown, hts, hX, hbl, hK, hT, hlt, hL⟩ := hC
  have hA : ∀ q : Nat, s.heap.size ≤ q → (fun q : Nat => s.heap.size ≤ q) q := fun _ h => h
  have hbA : ¬ (fun q : Nat => s.heap.size ≤ q) b := Nat.not_le.mpr hbl
  obtain ⟨-, -, -, -, hn, hy, ⟨Bs, hbs⟩, ⟨Ps, hps⟩, O, K, hrr⟩ := id hR
  obtain ⟨n1, n2, n3, n4, n5, n6⟩ := id hn
  have hKc := hK.sub (tys' := kt cI cZ) [0, 1] rfl
  refine lv_aload_n hx hb dL_law_169 rfl (lv_at hl 1 rfl) ?_
  refine lv_aload_n hx hb dL_law_170 rfl (lv_at hl 0 rfl) ?_
  refine lv_iload hx hb dL_law_171 (lv_at hl 4 rfl) ?_
  refine lv_iconst (v := nI 1) hx hb dL_law_173 (by decide) ?_
  refine lv_iadd hx hb dL_law_174 ?_
  refine qa_top (nI_add (3 * i) 1) ?_
  refine qa_sld (i := 3 * i + 1) hx hb hX hbl hbA hS (by omega) (by omega) dL_law_175 ?_
  have hPc := hP.sub (ws' := (w0 cI cZ ad (n, sc, st, en, du, fo, fk, fv, fr, fc, fb, fp, ft))) [0, 1, 2, 3, 4, 5, 6, 7, 8] rfl
  have hDc := hD.sub (ws' := (w0 cI cZ ad (n, sc, st, en, du, fo, fk, fv, fr, fc, fb, fp, ft))) [0, 1, 2, 3, 4, 5, 6, 7, 8] (by decide) rfl
  have hFc := va_free (wc := (w0 cI cZ ad (n, sc, st, en, du, fo, fk, fv, fr, fc, fb, fp, ft))) hD hS hA [0, 1, 2, 3, 4, 5, 6, 7, 8] rfl
  refine va_calli (va_runV (As := [.int (xs (3 * i + 1))]) (rest := []) ⟨hx, hb, hml, hown, hts⟩ (c0_remove l dC dI cI cZ ad H.size n sc st en du fo fk fv fr fc fb fp ft (xs (3 * i + 1)) (Bs (sc - 1)) (by omega) (by omega) n6 (by omega) (hbs.2.1 (sc - 1) (by omega)).1 (hbs.2.1 (sc - 1) (by omega)).2.2) (cwV 1 hts gL_law_X0_remove rfl rfl rfl (by decide +kernel) ⟨Nat.le_of_ble_eq_true rfl, Nat.le_of_ble_eq_true rfl⟩) ⟨bl_w, va_recv hKc hPc (ci := 0) (q0 := 0) rfl rfl, fun U hU hW => ⟨rfl, by rw [hU], by rw [hU]; exact hPc, va_K.moved hW.alike hKc, hDc.weaken (fun _ _ _ _ => trivial)⟩⟩ rfl rfl hl.1 rfl (lv_room (Nat.le_of_ble_eq_true rfl)) dL_law_176 ⟨by show 20 + i + 0 ≤ 1045; omega, by show 30400 + 6 * i + 0 ≤ 38468; omega⟩) hS (fun q _ h => hFc q h) hFc (fun r0 u9 t H1 locs ht hvm q0 hB hz1 hk1 hS => ?_)
  obtain ⟨n8, sc8, st8, en8, du8, fo8, fk8, fv8, fr8, fc8, fb8, fp8, ft8⟩ := u9
  obtain ⟨hP1, hK1, hD1⟩ := hB
  rw [ht] at hP1
  obtain ⟨hP, hD⟩ := va_join (wr := (w1 cI cZ bd (sc, st, en, du, th, yk, yv, yr, yt, yl, yb, yp, yg) ++ [(qo, .inl (cJ, 1, .inr (.inl fl)))])) (w1 := (w0 cI cZ ad (n8, sc8, st8, en8, du8, fo8, fk8, fv8, fr8, fc8, fb8, fp8, ft8))) hP hD [0, 1, 2, 3, 4, 5, 6, 7, 8] [9, 10, 11, 12, 13, 14, 15, 16, 17, 18] rfl rfl (by decide) (by decide) hk1 hFc hP1 hD1
  have hP := hP.sub (ws' := (wL cI cZ cJ ad bd qo (n8, sc8, st8, en8, du8, fo8, fk8, fv8, fr8, fc8, fb8, fp8, ft8) (sc, st, en, du, th, yk, yv, yr, yt, yl, yb, yp, yg) fl)) [10, 11, 12, 13, 14, 15, 16, 17, 18, 0, 1, 2, 3, 4, 5, 6, 7, 8, 9] rfl
  have hD := hD.sub (ws' := (wL cI cZ cJ ad bd qo (n8, sc8, st8, en8, du8, fo8, fk8, fv8, fr8, fc8, fb8, fp8, ft8) (sc, st, en, du, th, yk, yv, yr, yt, yl, yb, yp, yg) fl)) [10, 11, 12, 13, 14, 15, 16, 17, 18, 0, 1, 2, 3, 4, 5, 6, 7, 8, 9] (by decide) rfl
  generalize H1 = H at hP hS ⊢
  refine lv_aload_n hx hb dL_law_179 rfl (lv_at hl 2 rfl) ?_
  refine lv_aload_n hx hb dL_law_180 rfl (lv_at hl 0 rfl) ?_
  refine lv_iload hx hb dL_law_181 (lv_at hl 4 rfl) ?_
  refine lv_iconst (v := nI 1) hx hb dL_law_183 (by decide) ?_
  refine lv_iadd hx hb dL_law_184 ?_
  refine qa_top (nI_add (3 * i) 1) ?_
  refine qa_sld (i := 3 * i + 1) hx hb hX hbl hbA hS (by omega) (by omega) dL_law_185 ?_
  have hPc := hP.sub (ws' := (w1 cI cZ bd (sc, st, en, du, th, yk, yv, yr, yt, yl, yb, yp, yg))) [9, 10, 11, 12, 13, 14, 15, 16, 17] rfl
  have hDc := hD.sub (ws' := (w1 cI cZ bd (sc, st, en, du, th, yk, yv, yr, yt, yl, yb, yp, yg))) [9, 10, 11, 12, 13, 14, 15, 16, 17] (by decide) rfl
  have hFc := va_free (wc := (w1 cI cZ bd (sc, st, en, du, th, yk, yv, yr, yt, yl, yb, yp, yg))) hD hS hA [9, 10, 11, 12, 13, 14, 15, 16, 17] rfl
  refine va_calli (va_runV (As := [.int (xs (3 * i + 1))]) (rest := [.int r0]) ⟨hx, hb, hml, hown, hts⟩ (c1_remove l dC dI cI cZ bd H.size sc st en du th yk yv yr yt yl yb yp yg (xs (3 * i + 1)) (Bs (sc - 1)) (by omega) (by omega) (by omega) (by omega) (hbs.2.1 (sc - 1) (by omega)).2.1 (hbs.2.1 (sc - 1) (by omega)).2.2) (cwV 1 hts gL_law_X1_remove rfl rfl rfl (by decide +kernel) ⟨Nat.le_of_ble_eq_true rfl, Nat.le_of_ble_eq_true rfl⟩) ⟨bl_w, va_recv hKc hPc (ci := 1) (q0 := 0) rfl rfl, fun U hU hW => ⟨rfl, by rw [hU], by rw [hU]; exact hPc, va_K.moved hW.alike hKc, hDc.weaken (fun _ _ _ _ => trivial)⟩⟩ rfl rfl hl.1 rfl (lv_room (Nat.le_of_ble_eq_true rfl)) dL_law_186 ⟨by show 20 + i + 0 ≤ 1045; omega, by show 30400 + 6 * i + 0 ≤ 38468; omega⟩) hS (fun q _ h => hFc q h) hFc (fun r1 v9 t H1 locs ht hvm q1 hB hz1 hk1 hS => ?_)
  obtain ⟨sg3, st3, en3, du3, th3, yk3, yv3, yr3, yt3, yl3, yb3, yp3, yg3⟩ := v9
  obtain ⟨hP1, hK1, hD1⟩ := hB
  rw [ht] at hP1
  obtain ⟨hP, hD⟩ := va_join (wr := (w0 cI cZ ad (n8, sc8, st8, en8, du8, fo8, fk8, fv8, fr8, fc8, fb8, fp8, ft8) ++ [(qo, .inl (cJ, 1, .inr (.inl fl)))])) (w1 := (w1 cI cZ bd (sg3, st3, en3, du3, th3, yk3, yv3, yr3, yt3, yl3, yb3, yp3, yg3))) hP hD [9, 10, 11, 12, 13, 14, 15, 16, 17] [0, 1, 2, 3, 4, 5, 6, 7, 8, 18] rfl rfl (by decide) (by decide) hk1 hFc hP1 hD1
  have hP := hP.sub (ws' := (wL cI cZ cJ ad bd qo (n8, sc8, st8, en8, du8, fo8, fk8, fv8, fr8, fc8, fb8, fp8, ft8) (sg3, st3, en3, du3, th3, yk3, yv3, yr3, yt3, yl3, yb3, yp3, yg3) fl)) [0, 1, 2, 3, 4, 5, 6, 7, 8, 10, 11, 12, 13, 14, 15, 16, 17, 18, 9] rfl
  have hD := hD.sub (ws' := (wL cI cZ cJ ad bd qo (n8, sc8, st8, en8, du8, fo8, fk8, fv8, fr8, fc8, fb8, fp8, ft8) (sg3, st3, en3, du3, th3, yk3, yv3, yr3, yt3, yl3, yb3, yp3, yg3) fl)) [0, 1, 2, 3, 4, 5, 6, 7, 8, 10, 11, 12, 13, 14, 15, 16, 17, 18, 9] (by decide) rfl
  generalize H1 = H at hP hS ⊢
  have heq := app_eq hR hbs (Or.inr ⟨rfl, rfl⟩) q0 q1
  refine lv_icmp_eq (tgt := 622) hx hb dL_law_189 (by decide) (fun c1 => ?_) (fun c1 => ?_)
  · refine W.widen (k := 20 + (i + 1)) (n := 30400 + 6 * (i + 1)) (by omega) (by omega) ?_
    exact hk _ _ _ _ _ ls (heq.2) hP hD hS (lv_sub hl [0, 1, 2, 3, 4] rfl)
  · exact absurd (heq.1) c1
set_option maxHeartbeats 4000000 in
set_option maxRecDepth 100000 in
theorem law_c2 (hC : lwC p l s m c dC dI cI cZ cJ b L xs sa sb) {i : Nat} (hi : 3 * i + 3 ≤ L) (hk : lwG p l e s m below meth c dC dI cI cZ cJ ad bd qo b 622 (i + 1) i) {n sc st en du th : Nat} {fo fk fv fr fc fb fp ft yk yv yr yt yl yb yp yg : Nat → Int32} {fl : Nat → Int64} {H : Heap} {locs : List Loc} {ls : Array Slot} (hR : Rel i (n, sc, st, en, du, fo, fk, fv, fr, fc, fb, fp, ft) (sc, st, en, du, th, yk, yv, yr, yt, yl, yb, yp, yg)) (hP : va_P (dC, dI) vwCl (wL cI cZ cJ ad bd qo (n, sc, st, en, du, fo, fk, fv, fr, fc, fb, fp, ft) (sc, st, en, du, th, yk, yv, yr, yt, yl, yb, yp, yg) fl) H) (hD : va_D (fun q : Nat => s.heap.size ≤ q) (wL cI cZ cJ ad bd qo (n, sc, st, en, du, fo, fk, fv, fr, fc, fb, fp, ft) (sc, st, en, du, th, yk, yv, yr, yt, yl, yb, yp, yg) fl)) (hS : va_S (fun q : Nat => s.heap.size ≤ q) s.heap H locs) (hl : lv_has ls 7 [(0, .ref b), (1, .ref (ad 0)), (2, .ref (bd 0)), (3, .ref qo), (4, .int (nI (3 * i)))]) : W p l e room_1 s m #[Value.ref b] below meth c H locs (20 + i) (30400 + 6 * i) (lw_Z below #[Value.ref b] s) (F0 m 194 ls []) := by
  obtain ⟨hx, hb, hml, hown, hts, hX, hbl, hK, hT, hlt, hL⟩ := hC
  have hA : ∀ q : Nat, s.heap.size ≤ q → (fun q : Nat => s.heap.size ≤ q) q := fun _ h => h
  have hbA : ¬ (fun q : Nat => s.heap.size ≤ q) b := Nat.not_le.mpr hbl
  obtain ⟨-, -, -, -, hn, hy, ⟨Bs, hbs⟩, ⟨Ps, hps⟩, O, K, hrr⟩ := id hR
  obtain ⟨n1, n2, n3, n4, n5, n6⟩ := id hn
  have hKc := hK.sub (tys' := kt cI cZ) [0, 1] rfl
  refine lv_aload_n hx hb dL_law_194 rfl (lv_at hl 1 rfl) ?_
  have hPc := hP.sub (ws' := (w0 cI cZ ad (n, sc, st, en, du, fo, fk, fv, fr, fc, fb, fp, ft))) [0, 1, 2, 3, 4, 5, 6, 7, 8] rfl
  have hDc := hD.sub (ws' := (w0 cI cZ ad (n, sc, st, en, du, fo, fk, fv, fr, fc, fb, fp, ft))) [0, 1, 2, 3, 4, 5, 6, 7, 8] (by decide) rfl
  have hFc := va_free (wc := (w0 cI cZ ad (n, sc, st, en, du, fo, fk, fv, fr, fc, fb, fp, ft))) hD hS hA [0, 1, 2, 3, 4, 5, 6, 7, 8] rfl
  refine va_calli (va_runV (As := []) (rest := []) ⟨hx, hb, hml, hown, hts⟩ (c0_flush l dC dI cI cZ ad H.size n sc st en du fo fk fv fr fc fb fp ft  n5) (cwV 0 hts gL_law_X0_flush rfl rfl rfl (by decide +kernel) ⟨Nat.le_of_ble_eq_true rfl, Nat.le_of_ble_eq_true rfl⟩) ⟨bl_w, va_recv hKc hPc (ci := 0) (q0 := 0) rfl rfl, fun U hU hW => ⟨rfl, by rw [hU], by rw [hU]; exact hPc, va_K.moved hW.alike hKc, hDc.weaken (fun _ _ _ _ => trivial)⟩⟩ rfl rfl hl.1 rfl (lv_room (Nat.le_of_ble_eq_true rfl)) dL_law_195 ⟨by show 20 + i + 0 ≤ 1045; omega, by show 30400 + 6 * i + 0 ≤ 38468; omega⟩) hS (fun q _ h => hFc q h) hFc (fun r0 u9 t H1 locs ht hvm q0 hB hz1 hk1 hS => ?_)
  obtain ⟨n8, sc8, st8, en8, du8, fo8, fk8, fv8, fr8, fc8, fb8, fp8, ft8⟩ := u9
  obtain ⟨hP1, hK1, hD1⟩ := hB
  rw [ht] at hP1
  obtain ⟨hP, hD⟩ := va_join (wr := (w1 cI cZ bd (sc, st, en, du, th, yk, yv, yr, yt, yl, yb, yp, yg) ++ [(qo, .inl (cJ, 1, .inr (.inl fl)))])) (w1 := (w0 cI cZ ad (n8, sc8, st8, en8, du8, fo8, fk8, fv8, fr8, fc8, fb8, fp8, ft8))) hP hD [0, 1, 2, 3, 4, 5, 6, 7, 8] [9, 10, 11, 12, 13, 14, 15, 16, 17, 18] rfl rfl (by decide) (by decide) hk1 hFc hP1 hD1
  have hP := hP.sub (ws' := (wL cI cZ cJ ad bd qo (n8, sc8, st8, en8, du8, fo8, fk8, fv8, fr8, fc8, fb8, fp8, ft8) (sc, st, en, du, th, yk, yv, yr, yt, yl, yb, yp, yg) fl)) [10, 11, 12, 13, 14, 15, 16, 17, 18, 0, 1, 2, 3, 4, 5, 6, 7, 8, 9] rfl
  have hD := hD.sub (ws' := (wL cI cZ cJ ad bd qo (n8, sc8, st8, en8, du8, fo8, fk8, fv8, fr8, fc8, fb8, fp8, ft8) (sc, st, en, du, th, yk, yv, yr, yt, yl, yb, yp, yg) fl)) [10, 11, 12, 13, 14, 15, 16, 17, 18, 0, 1, 2, 3, 4, 5, 6, 7, 8, 9] (by decide) rfl
  generalize H1 = H at hP hS ⊢
  obtain ⟨rfl, q0⟩ := q0
  cases q0
  refine lv_aload_n hx hb dL_law_198 rfl (lv_at hl 2 rfl) ?_
  have hPc := hP.sub (ws' := (w1 cI cZ bd (sc, st, en, du, th, yk, yv, yr, yt, yl, yb, yp, yg))) [9, 10, 11, 12, 13, 14, 15, 16, 17] rfl
  have hDc := hD.sub (ws' := (w1 cI cZ bd (sc, st, en, du, th, yk, yv, yr, yt, yl, yb, yp, yg))) [9, 10, 11, 12, 13, 14, 15, 16, 17] (by decide) rfl
  have hFc := va_free (wc := (w1 cI cZ bd (sc, st, en, du, th, yk, yv, yr, yt, yl, yb, yp, yg))) hD hS hA [9, 10, 11, 12, 13, 14, 15, 16, 17] rfl
  refine va_calli (va_runV (As := []) (rest := [.int (nI (en - du))]) ⟨hx, hb, hml, hown, hts⟩ (c1_flush l dC dI cI cZ bd H.size sc st en du th yk yv yr yt yl yb yp yg  n5) (cwV 0 hts gL_law_X1_flush rfl rfl rfl (by decide +kernel) ⟨Nat.le_of_ble_eq_true rfl, Nat.le_of_ble_eq_true rfl⟩) ⟨bl_w, va_recv hKc hPc (ci := 1) (q0 := 0) rfl rfl, fun U hU hW => ⟨rfl, by rw [hU], by rw [hU]; exact hPc, va_K.moved hW.alike hKc, hDc.weaken (fun _ _ _ _ => trivial)⟩⟩ rfl rfl hl.1 rfl (lv_room (Nat.le_of_ble_eq_true rfl)) dL_law_199 ⟨by show 20 + i + 0 ≤ 1045; omega, by show 30400 + 6 * i + 0 ≤ 38468; omega⟩) hS (fun q _ h => hFc q h) hFc (fun r1 v9 t H1 locs ht hvm q1 hB hz1 hk1 hS => ?_)
  obtain ⟨sg3, st3, en3, du3, th3, yk3, yv3, yr3, yt3, yl3, yb3, yp3, yg3⟩ := v9
  obtain ⟨hP1, hK1, hD1⟩ := hB
  rw [ht] at hP1
  obtain ⟨hP, hD⟩ := va_join (wr := (w0 cI cZ ad (n, sc, st, en, en, fo, fk, fv, fr, fc, fb, fp, ft) ++ [(qo, .inl (cJ, 1, .inr (.inl fl)))])) (w1 := (w1 cI cZ bd (sg3, st3, en3, du3, th3, yk3, yv3, yr3, yt3, yl3, yb3, yp3, yg3))) hP hD [9, 10, 11, 12, 13, 14, 15, 16, 17] [0, 1, 2, 3, 4, 5, 6, 7, 8, 18] rfl rfl (by decide) (by decide) hk1 hFc hP1 hD1
  have hP := hP.sub (ws' := (wL cI cZ cJ ad bd qo (n, sc, st, en, en, fo, fk, fv, fr, fc, fb, fp, ft) (sg3, st3, en3, du3, th3, yk3, yv3, yr3, yt3, yl3, yb3, yp3, yg3) fl)) [0, 1, 2, 3, 4, 5, 6, 7, 8, 10, 11, 12, 13, 14, 15, 16, 17, 18, 9] rfl
  have hD := hD.sub (ws' := (wL cI cZ cJ ad bd qo (n, sc, st, en, en, fo, fk, fv, fr, fc, fb, fp, ft) (sg3, st3, en3, du3, th3, yk3, yv3, yr3, yt3, yl3, yb3, yp3, yg3) fl)) [0, 1, 2, 3, 4, 5, 6, 7, 8, 10, 11, 12, 13, 14, 15, 16, 17, 18, 9] (by decide) rfl
  generalize H1 = H at hP hS ⊢
  obtain ⟨rfl, q1⟩ := q1
  cases q1
  refine lv_icmp_eq (tgt := 622) hx hb dL_law_202 (by decide) (fun c1 => ?_) (fun c1 => ?_)
  · refine W.widen (k := 20 + (i + 1)) (n := 30400 + 6 * (i + 1)) (by omega) (by omega) ?_
    exact hk _ _ _ _ _ ls (flush_eq hR) hP hD hS (lv_sub hl [0, 1, 2, 3, 4] rfl)
  · exact absurd (rfl) c1
set_option maxHeartbeats 4000000 in
set_option maxRecDepth 100000 in
theorem law_c3 (hC : lwC p l s m c dC dI cI cZ cJ b L xs sa sb) {i : Nat} (hi : 3 * i + 3 ≤ L) (hk : lwG p l e s m below meth c dC dI cI cZ cJ ad bd qo b 622 (i + 1) i) {n sc st en du th : Nat} {fo fk fv fr fc fb fp ft yk yv yr yt yl yb yp yg : Nat → Int32} {fl : Nat → Int64} {H : Heap} {locs : List Loc} {ls : Array Slot} (hR : Rel i (n, sc, st, en, du, fo, fk, fv, fr, fc, fb, fp, ft) (sc, st, en, du, th, yk, yv, yr, yt, yl, yb, yp, yg)) (hP : va_P (dC, dI) vwCl (wL cI cZ cJ ad bd qo (n, sc, st, en, du, fo, fk, fv, fr, fc, fb, fp, ft) (sc, st, en, du, th, yk, yv, yr, yt, yl, yb, yp, yg) fl) H) (hD : va_D (fun q : Nat => s.heap.size ≤ q) (wL cI cZ cJ ad bd qo (n, sc, st, en, du, fo, fk, fv, fr, fc, fb, fp, ft) (sc, st, en, du, th, yk, yv, yr, yt, yl, yb, yp, yg) fl)) (hS : va_S (fun q : Nat => s.heap.size ≤ q) s.heap H locs) (hl : lv_has ls 7 [(0, .ref b), (1, .ref (ad 0)), (2, .ref (bd 0)), (3, .ref qo), (4, .int (nI (3 * i)))]) : W p l e room_1 s m #[Value.ref b] below meth c H locs (20 + i) (30400 + 6 * i) (lw_Z below #[Value.ref b] s) (F0 m 207 ls []) := by
  obtain ⟨hx, hb, hml, hown, hts, hX, hbl, hK, hT, hlt, hL⟩ := hC
  have hA : ∀ q : Nat, s.heap.size ≤ q → (fun q : Nat => s.heap.size ≤ q) q := fun _ h => h
  have hbA : ¬ (fun q : Nat => s.heap.size ≤ q) b := Nat.not_le.mpr hbl
  obtain ⟨-, -, -, -, hn, hy, ⟨Bs, hbs⟩, ⟨Ps, hps⟩, O, K, hrr⟩ := id hR
  obtain ⟨n1, n2, n3, n4, n5, n6⟩ := id hn
  have hKc := hK.sub (tys' := kt cI cZ) [0, 1] rfl
  refine lv_aload_n hx hb dL_law_207 rfl (lv_at hl 1 rfl) ?_
  have hPc := hP.sub (ws' := (w0 cI cZ ad (n, sc, st, en, du, fo, fk, fv, fr, fc, fb, fp, ft))) [0, 1, 2, 3, 4, 5, 6, 7, 8] rfl
  have hDc := hD.sub (ws' := (w0 cI cZ ad (n, sc, st, en, du, fo, fk, fv, fr, fc, fb, fp, ft))) [0, 1, 2, 3, 4, 5, 6, 7, 8] (by decide) rfl
  have hFc := va_free (wc := (w0 cI cZ ad (n, sc, st, en, du, fo, fk, fv, fr, fc, fb, fp, ft))) hD hS hA [0, 1, 2, 3, 4, 5, 6, 7, 8] rfl
  refine va_calli (va_runV (As := []) (rest := []) ⟨hx, hb, hml, hown, hts⟩ (c0_crash l dC dI cI cZ ad H.size n sc st en du fo fk fv fr fc fb fp ft  (by omega) n6) (cwV 0 hts gL_law_X0_crash rfl rfl rfl (by decide +kernel) ⟨Nat.le_of_ble_eq_true rfl, Nat.le_of_ble_eq_true rfl⟩) ⟨bl_w, va_recv hKc hPc (ci := 0) (q0 := 0) rfl rfl, fun U hU hW => ⟨rfl, by rw [hU], by rw [hU]; exact hPc, va_K.moved hW.alike hKc, hDc.weaken (fun _ _ _ _ => trivial)⟩⟩ rfl rfl hl.1 rfl (lv_room (Nat.le_of_ble_eq_true rfl)) dL_law_208 ⟨by show 20 + i + 0 ≤ 1045; omega, by show 30400 + 6 * i + 0 ≤ 38468; omega⟩) hS (fun q _ h => hFc q h) hFc (fun r0 u9 t H1 locs ht hvm q0 hB hz1 hk1 hS => ?_)
  obtain ⟨n8, sc8, st8, en8, du8, fo8, fk8, fv8, fr8, fc8, fb8, fp8, ft8⟩ := u9
  obtain ⟨hP1, hK1, hD1⟩ := hB
  rw [ht] at hP1
  obtain ⟨hP, hD⟩ := va_join (wr := (w1 cI cZ bd (sc, st, en, du, th, yk, yv, yr, yt, yl, yb, yp, yg) ++ [(qo, .inl (cJ, 1, .inr (.inl fl)))])) (w1 := (w0 cI cZ ad (n8, sc8, st8, en8, du8, fo8, fk8, fv8, fr8, fc8, fb8, fp8, ft8))) hP hD [0, 1, 2, 3, 4, 5, 6, 7, 8] [9, 10, 11, 12, 13, 14, 15, 16, 17, 18] rfl rfl (by decide) (by decide) hk1 hFc hP1 hD1
  have hP := hP.sub (ws' := (wL cI cZ cJ ad bd qo (n8, sc8, st8, en8, du8, fo8, fk8, fv8, fr8, fc8, fb8, fp8, ft8) (sc, st, en, du, th, yk, yv, yr, yt, yl, yb, yp, yg) fl)) [10, 11, 12, 13, 14, 15, 16, 17, 18, 0, 1, 2, 3, 4, 5, 6, 7, 8, 9] rfl
  have hD := hD.sub (ws' := (wL cI cZ cJ ad bd qo (n8, sc8, st8, en8, du8, fo8, fk8, fv8, fr8, fc8, fb8, fp8, ft8) (sc, st, en, du, th, yk, yv, yr, yt, yl, yb, yp, yg) fl)) [10, 11, 12, 13, 14, 15, 16, 17, 18, 0, 1, 2, 3, 4, 5, 6, 7, 8, 9] (by decide) rfl
  generalize H1 = H at hP hS ⊢
  refine lv_aload_n hx hb dL_law_211 rfl (lv_at hl 2 rfl) ?_
  have hPc := hP.sub (ws' := (w1 cI cZ bd (sc, st, en, du, th, yk, yv, yr, yt, yl, yb, yp, yg))) [9, 10, 11, 12, 13, 14, 15, 16, 17] rfl
  have hDc := hD.sub (ws' := (w1 cI cZ bd (sc, st, en, du, th, yk, yv, yr, yt, yl, yb, yp, yg))) [9, 10, 11, 12, 13, 14, 15, 16, 17] (by decide) rfl
  have hFc := va_free (wc := (w1 cI cZ bd (sc, st, en, du, th, yk, yv, yr, yt, yl, yb, yp, yg))) hD hS hA [9, 10, 11, 12, 13, 14, 15, 16, 17] rfl
  refine va_calli (va_runV (As := []) (rest := [.int r0]) ⟨hx, hb, hml, hown, hts⟩ (c1_crash l dC dI cI cZ bd H.size sc st en du th yk yv yr yt yl yb yp yg  (by omega) n5 (by omega)) (cwV 0 hts gL_law_X1_crash rfl rfl rfl (by decide +kernel) ⟨Nat.le_of_ble_eq_true rfl, Nat.le_of_ble_eq_true rfl⟩) ⟨bl_w, va_recv hKc hPc (ci := 1) (q0 := 0) rfl rfl, fun U hU hW => ⟨rfl, by rw [hU], by rw [hU]; exact hPc, va_K.moved hW.alike hKc, hDc.weaken (fun _ _ _ _ => trivial)⟩⟩ rfl rfl hl.1 rfl (lv_room (Nat.le_of_ble_eq_true rfl)) dL_law_212 ⟨by show 20 + i + 0 ≤ 1045; omega, by show 30400 + 6 * i + 0 ≤ 38468; omega⟩) hS (fun q _ h => hFc q h) hFc (fun r1 v9 t H1 locs ht hvm q1 hB hz1 hk1 hS => ?_)
  obtain ⟨sg3, st3, en3, du3, th3, yk3, yv3, yr3, yt3, yl3, yb3, yp3, yg3⟩ := v9
  obtain ⟨hP1, hK1, hD1⟩ := hB
  rw [ht] at hP1
  obtain ⟨hP, hD⟩ := va_join (wr := (w0 cI cZ ad (n8, sc8, st8, en8, du8, fo8, fk8, fv8, fr8, fc8, fb8, fp8, ft8) ++ [(qo, .inl (cJ, 1, .inr (.inl fl)))])) (w1 := (w1 cI cZ bd (sg3, st3, en3, du3, th3, yk3, yv3, yr3, yt3, yl3, yb3, yp3, yg3))) hP hD [9, 10, 11, 12, 13, 14, 15, 16, 17] [0, 1, 2, 3, 4, 5, 6, 7, 8, 18] rfl rfl (by decide) (by decide) hk1 hFc hP1 hD1
  have hP := hP.sub (ws' := (wL cI cZ cJ ad bd qo (n8, sc8, st8, en8, du8, fo8, fk8, fv8, fr8, fc8, fb8, fp8, ft8) (sg3, st3, en3, du3, th3, yk3, yv3, yr3, yt3, yl3, yb3, yp3, yg3) fl)) [0, 1, 2, 3, 4, 5, 6, 7, 8, 10, 11, 12, 13, 14, 15, 16, 17, 18, 9] rfl
  have hD := hD.sub (ws' := (wL cI cZ cJ ad bd qo (n8, sc8, st8, en8, du8, fo8, fk8, fv8, fr8, fc8, fb8, fp8, ft8) (sg3, st3, en3, du3, th3, yk3, yv3, yr3, yt3, yl3, yb3, yp3, yg3) fl)) [0, 1, 2, 3, 4, 5, 6, 7, 8, 10, 11, 12, 13, 14, 15, 16, 17, 18, 9] (by decide) rfl
  generalize H1 = H at hP hS ⊢
  have heq := crash_eq hR (by omega) q0 q1
  refine lv_icmp_eq (tgt := 622) hx hb dL_law_215 (by decide) (fun c1 => ?_) (fun c1 => ?_)
  · refine W.widen (k := 20 + (i + 1)) (n := 30400 + 6 * (i + 1)) (by omega) (by omega) ?_
    exact hk _ _ _ _ _ ls (heq.2) hP hD hS (lv_sub hl [0, 1, 2, 3, 4] rfl)
  · exact absurd (heq.1) c1
set_option maxHeartbeats 4000000 in
set_option maxRecDepth 100000 in
theorem law_c4 (hC : lwC p l s m c dC dI cI cZ cJ b L xs sa sb) {i : Nat} (hi : 3 * i + 3 ≤ L) (hk : lwG p l e s m below meth c dC dI cI cZ cJ ad bd qo b 622 (i + 1) i) {n sc st en du th : Nat} {fo fk fv fr fc fb fp ft yk yv yr yt yl yb yp yg : Nat → Int32} {fl : Nat → Int64} {H : Heap} {locs : List Loc} {ls : Array Slot} (hR : Rel i (n, sc, st, en, du, fo, fk, fv, fr, fc, fb, fp, ft) (sc, st, en, du, th, yk, yv, yr, yt, yl, yb, yp, yg)) (hP : va_P (dC, dI) vwCl (wL cI cZ cJ ad bd qo (n, sc, st, en, du, fo, fk, fv, fr, fc, fb, fp, ft) (sc, st, en, du, th, yk, yv, yr, yt, yl, yb, yp, yg) fl) H) (hD : va_D (fun q : Nat => s.heap.size ≤ q) (wL cI cZ cJ ad bd qo (n, sc, st, en, du, fo, fk, fv, fr, fc, fb, fp, ft) (sc, st, en, du, th, yk, yv, yr, yt, yl, yb, yp, yg) fl)) (hS : va_S (fun q : Nat => s.heap.size ≤ q) s.heap H locs) (hl : lv_has ls 7 [(0, .ref b), (1, .ref (ad 0)), (2, .ref (bd 0)), (3, .ref qo), (4, .int (nI (3 * i)))]) : W p l e room_1 s m #[Value.ref b] below meth c H locs (20 + i) (30400 + 6 * i) (lw_Z below #[Value.ref b] s) (F0 m 220 ls []) := by
  obtain ⟨hx, hb, hml, hown, hts, hX, hbl, hK, hT, hlt, hL⟩ := hC
  have hA : ∀ q : Nat, s.heap.size ≤ q → (fun q : Nat => s.heap.size ≤ q) q := fun _ h => h
  have hbA : ¬ (fun q : Nat => s.heap.size ≤ q) b := Nat.not_le.mpr hbl
  obtain ⟨-, -, -, -, hn, hy, ⟨Bs, hbs⟩, ⟨Ps, hps⟩, O, K, hrr⟩ := id hR
  obtain ⟨n1, n2, n3, n4, n5, n6⟩ := id hn
  have hKc := hK.sub (tys' := kt cI cZ) [0, 1] rfl
  refine lv_aload_n hx hb dL_law_220 rfl (lv_at hl 1 rfl) ?_
  have hPc := hP.sub (ws' := (w0 cI cZ ad (n, sc, st, en, du, fo, fk, fv, fr, fc, fb, fp, ft))) [0, 1, 2, 3, 4, 5, 6, 7, 8] rfl
  have hDc := hD.sub (ws' := (w0 cI cZ ad (n, sc, st, en, du, fo, fk, fv, fr, fc, fb, fp, ft))) [0, 1, 2, 3, 4, 5, 6, 7, 8] (by decide) rfl
  have hFc := va_free (wc := (w0 cI cZ ad (n, sc, st, en, du, fo, fk, fv, fr, fc, fb, fp, ft))) hD hS hA [0, 1, 2, 3, 4, 5, 6, 7, 8] rfl
  refine va_calli (va_runV (As := []) (rest := []) ⟨hx, hb, hml, hown, hts⟩ (c0_roll l dC dI cI cZ ad H.size n sc st en du fo fk fv fr fc fb fp ft  (by omega) (by omega)) (cwV 0 hts gL_law_X0_roll rfl rfl rfl (by decide +kernel) ⟨Nat.le_of_ble_eq_true rfl, Nat.le_of_ble_eq_true rfl⟩) ⟨bl_w, va_recv hKc hPc (ci := 0) (q0 := 0) rfl rfl, fun U hU hW => ⟨rfl, by rw [hU], by rw [hU]; exact hPc, va_K.moved hW.alike hKc, hDc.weaken (fun _ _ _ _ => trivial)⟩⟩ rfl rfl hl.1 rfl (lv_room (Nat.le_of_ble_eq_true rfl)) dL_law_221 ⟨by show 20 + i + 0 ≤ 1045; omega, by show 30400 + 6 * i + 0 ≤ 38468; omega⟩) hS (fun q _ h => hFc q h) hFc (fun r0 u9 t H1 locs ht hvm q0 hB hz1 hk1 hS => ?_)
  obtain ⟨n8, sc8, st8, en8, du8, fo8, fk8, fv8, fr8, fc8, fb8, fp8, ft8⟩ := u9
  obtain ⟨hP1, hK1, hD1⟩ := hB
  rw [ht] at hP1
  obtain ⟨hP, hD⟩ := va_join (wr := (w1 cI cZ bd (sc, st, en, du, th, yk, yv, yr, yt, yl, yb, yp, yg) ++ [(qo, .inl (cJ, 1, .inr (.inl fl)))])) (w1 := (w0 cI cZ ad (n8, sc8, st8, en8, du8, fo8, fk8, fv8, fr8, fc8, fb8, fp8, ft8))) hP hD [0, 1, 2, 3, 4, 5, 6, 7, 8] [9, 10, 11, 12, 13, 14, 15, 16, 17, 18] rfl rfl (by decide) (by decide) hk1 hFc hP1 hD1
  have hP := hP.sub (ws' := (wL cI cZ cJ ad bd qo (n8, sc8, st8, en8, du8, fo8, fk8, fv8, fr8, fc8, fb8, fp8, ft8) (sc, st, en, du, th, yk, yv, yr, yt, yl, yb, yp, yg) fl)) [10, 11, 12, 13, 14, 15, 16, 17, 18, 0, 1, 2, 3, 4, 5, 6, 7, 8, 9] rfl
  have hD := hD.sub (ws' := (wL cI cZ cJ ad bd qo (n8, sc8, st8, en8, du8, fo8, fk8, fv8, fr8, fc8, fb8, fp8, ft8) (sc, st, en, du, th, yk, yv, yr, yt, yl, yb, yp, yg) fl)) [10, 11, 12, 13, 14, 15, 16, 17, 18, 0, 1, 2, 3, 4, 5, 6, 7, 8, 9] (by decide) rfl
  generalize H1 = H at hP hS ⊢
  refine lv_aload_n hx hb dL_law_224 rfl (lv_at hl 2 rfl) ?_
  have hPc := hP.sub (ws' := (w1 cI cZ bd (sc, st, en, du, th, yk, yv, yr, yt, yl, yb, yp, yg))) [9, 10, 11, 12, 13, 14, 15, 16, 17] rfl
  have hDc := hD.sub (ws' := (w1 cI cZ bd (sc, st, en, du, th, yk, yv, yr, yt, yl, yb, yp, yg))) [9, 10, 11, 12, 13, 14, 15, 16, 17] (by decide) rfl
  have hFc := va_free (wc := (w1 cI cZ bd (sc, st, en, du, th, yk, yv, yr, yt, yl, yb, yp, yg))) hD hS hA [9, 10, 11, 12, 13, 14, 15, 16, 17] rfl
  refine va_calli (va_runV (As := []) (rest := [.int r0]) ⟨hx, hb, hml, hown, hts⟩ (c1_roll l dC dI cI cZ bd H.size sc st en du th yk yv yr yt yl yb yp yg  (by omega) (by omega)) (cwV 0 hts gL_law_X1_roll rfl rfl rfl (by decide +kernel) ⟨Nat.le_of_ble_eq_true rfl, Nat.le_of_ble_eq_true rfl⟩) ⟨bl_w, va_recv hKc hPc (ci := 1) (q0 := 0) rfl rfl, fun U hU hW => ⟨rfl, by rw [hU], by rw [hU]; exact hPc, va_K.moved hW.alike hKc, hDc.weaken (fun _ _ _ _ => trivial)⟩⟩ rfl rfl hl.1 rfl (lv_room (Nat.le_of_ble_eq_true rfl)) dL_law_225 ⟨by show 20 + i + 0 ≤ 1045; omega, by show 30400 + 6 * i + 0 ≤ 38468; omega⟩) hS (fun q _ h => hFc q h) hFc (fun r1 v9 t H1 locs ht hvm q1 hB hz1 hk1 hS => ?_)
  obtain ⟨sg3, st3, en3, du3, th3, yk3, yv3, yr3, yt3, yl3, yb3, yp3, yg3⟩ := v9
  obtain ⟨hP1, hK1, hD1⟩ := hB
  rw [ht] at hP1
  obtain ⟨hP, hD⟩ := va_join (wr := (w0 cI cZ ad (n8, sc8, st8, en8, du8, fo8, fk8, fv8, fr8, fc8, fb8, fp8, ft8) ++ [(qo, .inl (cJ, 1, .inr (.inl fl)))])) (w1 := (w1 cI cZ bd (sg3, st3, en3, du3, th3, yk3, yv3, yr3, yt3, yl3, yb3, yp3, yg3))) hP hD [9, 10, 11, 12, 13, 14, 15, 16, 17] [0, 1, 2, 3, 4, 5, 6, 7, 8, 18] rfl rfl (by decide) (by decide) hk1 hFc hP1 hD1
  have hP := hP.sub (ws' := (wL cI cZ cJ ad bd qo (n8, sc8, st8, en8, du8, fo8, fk8, fv8, fr8, fc8, fb8, fp8, ft8) (sg3, st3, en3, du3, th3, yk3, yv3, yr3, yt3, yl3, yb3, yp3, yg3) fl)) [0, 1, 2, 3, 4, 5, 6, 7, 8, 10, 11, 12, 13, 14, 15, 16, 17, 18, 9] rfl
  have hD := hD.sub (ws' := (wL cI cZ cJ ad bd qo (n8, sc8, st8, en8, du8, fo8, fk8, fv8, fr8, fc8, fb8, fp8, ft8) (sg3, st3, en3, du3, th3, yk3, yv3, yr3, yt3, yl3, yb3, yp3, yg3) fl)) [0, 1, 2, 3, 4, 5, 6, 7, 8, 10, 11, 12, 13, 14, 15, 16, 17, 18, 9] (by decide) rfl
  generalize H1 = H at hP hS ⊢
  have heq := roll_eq hR q0 q1
  refine lv_icmp_eq (tgt := 622) hx hb dL_law_228 (by decide) (fun c1 => ?_) (fun c1 => ?_)
  · refine W.widen (k := 20 + (i + 1)) (n := 30400 + 6 * (i + 1)) (by omega) (by omega) ?_
    exact hk _ _ _ _ _ ls (heq.2) hP hD hS (lv_sub hl [0, 1, 2, 3, 4] rfl)
  · exact absurd (heq.1) c1
set_option maxHeartbeats 4000000 in
set_option maxRecDepth 100000 in
theorem law_c5 (hC : lwC p l s m c dC dI cI cZ cJ b L xs sa sb) {i : Nat} (hi : 3 * i + 3 ≤ L) (hk : lwG p l e s m below meth c dC dI cI cZ cJ ad bd qo b 622 (i + 1) i) {n sc st en du th : Nat} {fo fk fv fr fc fb fp ft yk yv yr yt yl yb yp yg : Nat → Int32} {fl : Nat → Int64} {H : Heap} {locs : List Loc} {ls : Array Slot} (hR : Rel i (n, sc, st, en, du, fo, fk, fv, fr, fc, fb, fp, ft) (sc, st, en, du, th, yk, yv, yr, yt, yl, yb, yp, yg)) (hP : va_P (dC, dI) vwCl (wL cI cZ cJ ad bd qo (n, sc, st, en, du, fo, fk, fv, fr, fc, fb, fp, ft) (sc, st, en, du, th, yk, yv, yr, yt, yl, yb, yp, yg) fl) H) (hD : va_D (fun q : Nat => s.heap.size ≤ q) (wL cI cZ cJ ad bd qo (n, sc, st, en, du, fo, fk, fv, fr, fc, fb, fp, ft) (sc, st, en, du, th, yk, yv, yr, yt, yl, yb, yp, yg) fl)) (hS : va_S (fun q : Nat => s.heap.size ≤ q) s.heap H locs) (hl : lv_has ls 7 [(0, .ref b), (1, .ref (ad 0)), (2, .ref (bd 0)), (3, .ref qo), (4, .int (nI (3 * i)))]) : W p l e room_1 s m #[Value.ref b] below meth c H locs (20 + i) (30400 + 6 * i) (lw_Z below #[Value.ref b] s) (F0 m 233 ls []) := by
  obtain ⟨hx, hb, hml, hown, hts, hX, hbl, hK, hT, hlt, hL⟩ := hC
  have hA : ∀ q : Nat, s.heap.size ≤ q → (fun q : Nat => s.heap.size ≤ q) q := fun _ h => h
  have hbA : ¬ (fun q : Nat => s.heap.size ≤ q) b := Nat.not_le.mpr hbl
  obtain ⟨-, -, -, -, hn, hy, ⟨Bs, hbs⟩, ⟨Ps, hps⟩, O, K, hrr⟩ := id hR
  obtain ⟨n1, n2, n3, n4, n5, n6⟩ := id hn
  have hKc := hK.sub (tys' := kt cI cZ) [0, 1] rfl
  refine lv_aload_n hx hb dL_law_233 rfl (lv_at hl 1 rfl) ?_
  refine lv_aload_n hx hb dL_law_234 rfl (lv_at hl 0 rfl) ?_
  refine lv_iload hx hb dL_law_235 (lv_at hl 4 rfl) ?_
  refine lv_iconst (v := nI 1) hx hb dL_law_237 (by decide) ?_
  refine lv_iadd hx hb dL_law_238 ?_
  refine qa_top (nI_add (3 * i) 1) ?_
  refine qa_sld (i := 3 * i + 1) hx hb hX hbl hbA hS (by omega) (by omega) dL_law_239 ?_
  have hPc := hP.sub (ws' := (w0 cI cZ ad (n, sc, st, en, du, fo, fk, fv, fr, fc, fb, fp, ft))) [0, 1, 2, 3, 4, 5, 6, 7, 8] rfl
  have hDc := hD.sub (ws' := (w0 cI cZ ad (n, sc, st, en, du, fo, fk, fv, fr, fc, fb, fp, ft))) [0, 1, 2, 3, 4, 5, 6, 7, 8] (by decide) rfl
  have hFc := va_free (wc := (w0 cI cZ ad (n, sc, st, en, du, fo, fk, fv, fr, fc, fb, fp, ft))) hD hS hA [0, 1, 2, 3, 4, 5, 6, 7, 8] rfl
  refine va_calli (va_runV (As := [.int (xs (3 * i + 1))]) (rest := []) ⟨hx, hb, hml, hown, hts⟩ (c0_retain l dC dI cI cZ ad H.size n sc st en du fo fk fv fr fc fb fp ft (xs (3 * i + 1)) Bs n2 (by omega) n6 (by omega) (fun q hq => ⟨(hbs.2.1 q hq).1, by have := (hbs.2.1 q hq).2.2; omega⟩) (nb_of hrr).1 (nb_of hrr).2) (cwV 1 hts gL_law_X0_retain rfl rfl rfl (by decide +kernel) ⟨Nat.le_of_ble_eq_true rfl, Nat.le_of_ble_eq_true rfl⟩) ⟨bl_w, va_recv hKc hPc (ci := 0) (q0 := 0) rfl rfl, fun U hU hW => ⟨rfl, by rw [hU], by rw [hU]; exact hPc, va_K.moved hW.alike hKc, hDc.weaken (fun _ _ _ _ => trivial)⟩⟩ rfl rfl hl.1 rfl (lv_room (Nat.le_of_ble_eq_true rfl)) dL_law_240 ⟨by show 20 + i + 0 ≤ 1045; omega, by show 30400 + 6 * i + 0 ≤ 38468; omega⟩) hS (fun q _ h => hFc q h) hFc (fun r0 u9 t H1 locs ht hvm q0 hB hz1 hk1 hS => ?_)
  obtain ⟨n8, sc8, st8, en8, du8, fo8, fk8, fv8, fr8, fc8, fb8, fp8, ft8⟩ := u9
  obtain ⟨hP1, hK1, hD1⟩ := hB
  rw [ht] at hP1
  obtain ⟨hP, hD⟩ := va_join (wr := (w1 cI cZ bd (sc, st, en, du, th, yk, yv, yr, yt, yl, yb, yp, yg) ++ [(qo, .inl (cJ, 1, .inr (.inl fl)))])) (w1 := (w0 cI cZ ad (n8, sc8, st8, en8, du8, fo8, fk8, fv8, fr8, fc8, fb8, fp8, ft8))) hP hD [0, 1, 2, 3, 4, 5, 6, 7, 8] [9, 10, 11, 12, 13, 14, 15, 16, 17, 18] rfl rfl (by decide) (by decide) hk1 hFc hP1 hD1
  have hP := hP.sub (ws' := (wL cI cZ cJ ad bd qo (n8, sc8, st8, en8, du8, fo8, fk8, fv8, fr8, fc8, fb8, fp8, ft8) (sc, st, en, du, th, yk, yv, yr, yt, yl, yb, yp, yg) fl)) [10, 11, 12, 13, 14, 15, 16, 17, 18, 0, 1, 2, 3, 4, 5, 6, 7, 8, 9] rfl
  have hD := hD.sub (ws' := (wL cI cZ cJ ad bd qo (n8, sc8, st8, en8, du8, fo8, fk8, fv8, fr8, fc8, fb8, fp8, ft8) (sc, st, en, du, th, yk, yv, yr, yt, yl, yb, yp, yg) fl)) [10, 11, 12, 13, 14, 15, 16, 17, 18, 0, 1, 2, 3, 4, 5, 6, 7, 8, 9] (by decide) rfl
  generalize H1 = H at hP hS ⊢
  refine lv_aload_n hx hb dL_law_243 rfl (lv_at hl 2 rfl) ?_
  refine lv_aload_n hx hb dL_law_244 rfl (lv_at hl 0 rfl) ?_
  refine lv_iload hx hb dL_law_245 (lv_at hl 4 rfl) ?_
  refine lv_iconst (v := nI 1) hx hb dL_law_247 (by decide) ?_
  refine lv_iadd hx hb dL_law_248 ?_
  refine qa_top (nI_add (3 * i) 1) ?_
  refine qa_sld (i := 3 * i + 1) hx hb hX hbl hbA hS (by omega) (by omega) dL_law_249 ?_
  have hPc := hP.sub (ws' := (w1 cI cZ bd (sc, st, en, du, th, yk, yv, yr, yt, yl, yb, yp, yg))) [9, 10, 11, 12, 13, 14, 15, 16, 17] rfl
  have hDc := hD.sub (ws' := (w1 cI cZ bd (sc, st, en, du, th, yk, yv, yr, yt, yl, yb, yp, yg))) [9, 10, 11, 12, 13, 14, 15, 16, 17] (by decide) rfl
  have hFc := va_free (wc := (w1 cI cZ bd (sc, st, en, du, th, yk, yv, yr, yt, yl, yb, yp, yg))) hD hS hA [9, 10, 11, 12, 13, 14, 15, 16, 17] rfl
  refine va_calli (va_runV (As := [.int (xs (3 * i + 1))]) (rest := [.int r0]) ⟨hx, hb, hml, hown, hts⟩ (c1_retain l dC dI cI cZ bd H.size sc st en du th yk yv yr yt yl yb yp yg (xs (3 * i + 1)) Bs n2 (by omega) (by omega) (by omega) (fun q hq => ⟨(hbs.2.1 q hq).2.1, by have := (hbs.2.1 q hq).2.2; omega⟩) hbs.2.2 (fun q hq => rb_le2 hbs (Nat.zero_le q) hq)) (cwV 1 hts gL_law_X1_retain rfl rfl rfl (by decide +kernel) ⟨Nat.le_of_ble_eq_true rfl, Nat.le_of_ble_eq_true rfl⟩) ⟨bl_w, va_recv hKc hPc (ci := 1) (q0 := 0) rfl rfl, fun U hU hW => ⟨rfl, by rw [hU], by rw [hU]; exact hPc, va_K.moved hW.alike hKc, hDc.weaken (fun _ _ _ _ => trivial)⟩⟩ rfl rfl hl.1 rfl (lv_room (Nat.le_of_ble_eq_true rfl)) dL_law_250 ⟨by show 20 + i + 0 ≤ 1045; omega, by show 30400 + 6 * i + 0 ≤ 38468; omega⟩) hS (fun q _ h => hFc q h) hFc (fun r1 v9 t H1 locs ht hvm q1 hB hz1 hk1 hS => ?_)
  obtain ⟨sg3, st3, en3, du3, th3, yk3, yv3, yr3, yt3, yl3, yb3, yp3, yg3⟩ := v9
  obtain ⟨hP1, hK1, hD1⟩ := hB
  rw [ht] at hP1
  obtain ⟨hP, hD⟩ := va_join (wr := (w0 cI cZ ad (n8, sc8, st8, en8, du8, fo8, fk8, fv8, fr8, fc8, fb8, fp8, ft8) ++ [(qo, .inl (cJ, 1, .inr (.inl fl)))])) (w1 := (w1 cI cZ bd (sg3, st3, en3, du3, th3, yk3, yv3, yr3, yt3, yl3, yb3, yp3, yg3))) hP hD [9, 10, 11, 12, 13, 14, 15, 16, 17] [0, 1, 2, 3, 4, 5, 6, 7, 8, 18] rfl rfl (by decide) (by decide) hk1 hFc hP1 hD1
  have hP := hP.sub (ws' := (wL cI cZ cJ ad bd qo (n8, sc8, st8, en8, du8, fo8, fk8, fv8, fr8, fc8, fb8, fp8, ft8) (sg3, st3, en3, du3, th3, yk3, yv3, yr3, yt3, yl3, yb3, yp3, yg3) fl)) [0, 1, 2, 3, 4, 5, 6, 7, 8, 10, 11, 12, 13, 14, 15, 16, 17, 18, 9] rfl
  have hD := hD.sub (ws' := (wL cI cZ cJ ad bd qo (n8, sc8, st8, en8, du8, fo8, fk8, fv8, fr8, fc8, fb8, fp8, ft8) (sg3, st3, en3, du3, th3, yk3, yv3, yr3, yt3, yl3, yb3, yp3, yg3) fl)) [0, 1, 2, 3, 4, 5, 6, 7, 8, 10, 11, 12, 13, 14, 15, 16, 17, 18, 9] (by decide) rfl
  generalize H1 = H at hP hS ⊢
  have heq := retain_eq hR hbs (by omega) q0 q1
  refine lv_icmp_eq (tgt := 622) hx hb dL_law_253 (by decide) (fun c1 => ?_) (fun c1 => ?_)
  · refine W.widen (k := 20 + (i + 1)) (n := 30400 + 6 * (i + 1)) (by omega) (by omega) ?_
    exact hk _ _ _ _ _ ls (heq.2) hP hD hS (lv_sub hl [0, 1, 2, 3, 4] rfl)
  · exact absurd (heq.1) c1
set_option maxHeartbeats 4000000 in
set_option maxRecDepth 100000 in
theorem law_c6 (hC : lwC p l s m c dC dI cI cZ cJ b L xs sa sb) {i : Nat} (hi : 3 * i + 3 ≤ L) (hk : lwG p l e s m below meth c dC dI cI cZ cJ ad bd qo b 622 (i + 1) i) {n sc st en du th : Nat} {fo fk fv fr fc fb fp ft yk yv yr yt yl yb yp yg : Nat → Int32} {fl : Nat → Int64} {H : Heap} {locs : List Loc} {ls : Array Slot} (hR : Rel i (n, sc, st, en, du, fo, fk, fv, fr, fc, fb, fp, ft) (sc, st, en, du, th, yk, yv, yr, yt, yl, yb, yp, yg)) (hP : va_P (dC, dI) vwCl (wL cI cZ cJ ad bd qo (n, sc, st, en, du, fo, fk, fv, fr, fc, fb, fp, ft) (sc, st, en, du, th, yk, yv, yr, yt, yl, yb, yp, yg) fl) H) (hD : va_D (fun q : Nat => s.heap.size ≤ q) (wL cI cZ cJ ad bd qo (n, sc, st, en, du, fo, fk, fv, fr, fc, fb, fp, ft) (sc, st, en, du, th, yk, yv, yr, yt, yl, yb, yp, yg) fl)) (hS : va_S (fun q : Nat => s.heap.size ≤ q) s.heap H locs) (hl : lv_has ls 7 [(0, .ref b), (1, .ref (ad 0)), (2, .ref (bd 0)), (3, .ref qo), (4, .int (nI (3 * i)))]) : W p l e room_1 s m #[Value.ref b] below meth c H locs (20 + i) (30400 + 6 * i) (lw_Z below #[Value.ref b] s) (F0 m 258 ls []) := by
  obtain ⟨hx, hb, hml, hown, hts, hX, hbl, hK, hT, hlt, hL⟩ := hC
  have hA : ∀ q : Nat, s.heap.size ≤ q → (fun q : Nat => s.heap.size ≤ q) q := fun _ h => h
  have hbA : ¬ (fun q : Nat => s.heap.size ≤ q) b := Nat.not_le.mpr hbl
  obtain ⟨-, -, -, -, hn, hy, ⟨Bs, hbs⟩, ⟨Ps, hps⟩, O, K, hrr⟩ := id hR
  obtain ⟨n1, n2, n3, n4, n5, n6⟩ := id hn
  have hKc := hK.sub (tys' := kt cI cZ) [0, 1] rfl
  refine lv_aload_n hx hb dL_law_258 rfl (lv_at hl 1 rfl) ?_
  have hPc := hP.sub (ws' := (w0 cI cZ ad (n, sc, st, en, du, fo, fk, fv, fr, fc, fb, fp, ft))) [0, 1, 2, 3, 4, 5, 6, 7, 8] rfl
  have hDc := hD.sub (ws' := (w0 cI cZ ad (n, sc, st, en, du, fo, fk, fv, fr, fc, fb, fp, ft))) [0, 1, 2, 3, 4, 5, 6, 7, 8] (by decide) rfl
  have hFc := va_free (wc := (w0 cI cZ ad (n, sc, st, en, du, fo, fk, fv, fr, fc, fb, fp, ft))) hD hS hA [0, 1, 2, 3, 4, 5, 6, 7, 8] rfl
  refine va_calli (va_runV (As := []) (rest := []) ⟨hx, hb, hml, hown, hts⟩ (c0_compact l dC dI cI cZ ad H.size n sc st en du fo fk fv fr fc fb fp ft K n2 (by omega) n6 (fun q hq => ⟨(hrr q hq).2.2.1, (hrr q hq).2.2.2.1⟩) (nb_of hrr).1 (nb_of hrr).2) (cwV 0 hts gL_law_X0_compact rfl rfl rfl (by decide +kernel) ⟨Nat.le_of_ble_eq_true rfl, Nat.le_of_ble_eq_true rfl⟩) ⟨bl_w, va_recv hKc hPc (ci := 0) (q0 := 0) rfl rfl, fun U hU hW => ⟨rfl, by rw [hU], by rw [hU]; exact hPc, va_K.moved hW.alike hKc, hDc.weaken (fun _ _ _ _ => trivial)⟩⟩ rfl rfl hl.1 rfl (lv_room (Nat.le_of_ble_eq_true rfl)) dL_law_259 ⟨by show 20 + i + 0 ≤ 1045; omega, by show 30400 + 6 * i + 0 ≤ 38468; omega⟩) hS (fun q _ h => hFc q h) hFc (fun r0 u9 t H1 locs ht hvm q0 hB hz1 hk1 hS => ?_)
  obtain ⟨n8, sc8, st8, en8, du8, fo8, fk8, fv8, fr8, fc8, fb8, fp8, ft8⟩ := u9
  obtain ⟨hP1, hK1, hD1⟩ := hB
  rw [ht] at hP1
  obtain ⟨hP, hD⟩ := va_join (wr := (w1 cI cZ bd (sc, st, en, du, th, yk, yv, yr, yt, yl, yb, yp, yg) ++ [(qo, .inl (cJ, 1, .inr (.inl fl)))])) (w1 := (w0 cI cZ ad (n8, sc8, st8, en8, du8, fo8, fk8, fv8, fr8, fc8, fb8, fp8, ft8))) hP hD [0, 1, 2, 3, 4, 5, 6, 7, 8] [9, 10, 11, 12, 13, 14, 15, 16, 17, 18] rfl rfl (by decide) (by decide) hk1 hFc hP1 hD1
  have hP := hP.sub (ws' := (wL cI cZ cJ ad bd qo (n8, sc8, st8, en8, du8, fo8, fk8, fv8, fr8, fc8, fb8, fp8, ft8) (sc, st, en, du, th, yk, yv, yr, yt, yl, yb, yp, yg) fl)) [10, 11, 12, 13, 14, 15, 16, 17, 18, 0, 1, 2, 3, 4, 5, 6, 7, 8, 9] rfl
  have hD := hD.sub (ws' := (wL cI cZ cJ ad bd qo (n8, sc8, st8, en8, du8, fo8, fk8, fv8, fr8, fc8, fb8, fp8, ft8) (sc, st, en, du, th, yk, yv, yr, yt, yl, yb, yp, yg) fl)) [10, 11, 12, 13, 14, 15, 16, 17, 18, 0, 1, 2, 3, 4, 5, 6, 7, 8, 9] (by decide) rfl
  generalize H1 = H at hP hS ⊢
  refine lv_aload_n hx hb dL_law_262 rfl (lv_at hl 2 rfl) ?_
  have hPc := hP.sub (ws' := (w1 cI cZ bd (sc, st, en, du, th, yk, yv, yr, yt, yl, yb, yp, yg))) [9, 10, 11, 12, 13, 14, 15, 16, 17] rfl
  have hDc := hD.sub (ws' := (w1 cI cZ bd (sc, st, en, du, th, yk, yv, yr, yt, yl, yb, yp, yg))) [9, 10, 11, 12, 13, 14, 15, 16, 17] (by decide) rfl
  have hFc := va_free (wc := (w1 cI cZ bd (sc, st, en, du, th, yk, yv, yr, yt, yl, yb, yp, yg))) hD hS hA [9, 10, 11, 12, 13, 14, 15, 16, 17] rfl
  refine va_calli (va_runV (As := []) (rest := [.int r0]) ⟨hx, hb, hml, hown, hts⟩ (c1_compact l dC dI cI cZ bd H.size sc st en du th yk yv yr yt yl yb yp yg Bs n2 (by omega) (by omega) (fun q hq => ⟨(hbs.2.1 q hq).2.1, by have := (hbs.2.1 q hq).2.2; omega⟩)) (cwV 0 hts gL_law_X1_compact rfl rfl rfl (by decide +kernel) ⟨Nat.le_of_ble_eq_true rfl, Nat.le_of_ble_eq_true rfl⟩) ⟨bl_w, va_recv hKc hPc (ci := 1) (q0 := 0) rfl rfl, fun U hU hW => ⟨rfl, by rw [hU], by rw [hU]; exact hPc, va_K.moved hW.alike hKc, hDc.weaken (fun _ _ _ _ => trivial)⟩⟩ rfl rfl hl.1 rfl (lv_room (Nat.le_of_ble_eq_true rfl)) dL_law_263 ⟨by show 20 + i + 0 ≤ 1045; omega, by show 30400 + 6 * i + 0 ≤ 38468; omega⟩) hS (fun q _ h => hFc q h) hFc (fun r1 v9 t H1 locs ht hvm q1 hB hz1 hk1 hS => ?_)
  obtain ⟨sg3, st3, en3, du3, th3, yk3, yv3, yr3, yt3, yl3, yb3, yp3, yg3⟩ := v9
  obtain ⟨hP1, hK1, hD1⟩ := hB
  rw [ht] at hP1
  obtain ⟨hP, hD⟩ := va_join (wr := (w0 cI cZ ad (n8, sc8, st8, en8, du8, fo8, fk8, fv8, fr8, fc8, fb8, fp8, ft8) ++ [(qo, .inl (cJ, 1, .inr (.inl fl)))])) (w1 := (w1 cI cZ bd (sg3, st3, en3, du3, th3, yk3, yv3, yr3, yt3, yl3, yb3, yp3, yg3))) hP hD [9, 10, 11, 12, 13, 14, 15, 16, 17] [0, 1, 2, 3, 4, 5, 6, 7, 8, 18] rfl rfl (by decide) (by decide) hk1 hFc hP1 hD1
  have hP := hP.sub (ws' := (wL cI cZ cJ ad bd qo (n8, sc8, st8, en8, du8, fo8, fk8, fv8, fr8, fc8, fb8, fp8, ft8) (sg3, st3, en3, du3, th3, yk3, yv3, yr3, yt3, yl3, yb3, yp3, yg3) fl)) [0, 1, 2, 3, 4, 5, 6, 7, 8, 10, 11, 12, 13, 14, 15, 16, 17, 18, 9] rfl
  have hD := hD.sub (ws' := (wL cI cZ cJ ad bd qo (n8, sc8, st8, en8, du8, fo8, fk8, fv8, fr8, fc8, fb8, fp8, ft8) (sg3, st3, en3, du3, th3, yk3, yv3, yr3, yt3, yl3, yb3, yp3, yg3) fl)) [0, 1, 2, 3, 4, 5, 6, 7, 8, 10, 11, 12, 13, 14, 15, 16, 17, 18, 9] (by decide) rfl
  generalize H1 = H at hP hS ⊢
  have heq := compact_eq hR hbs hrr (by omega) q0 q1
  refine lv_icmp_eq (tgt := 622) hx hb dL_law_266 (by decide) (fun c1 => ?_) (fun c1 => ?_)
  · refine W.widen (k := 20 + (i + 1)) (n := 30400 + 6 * (i + 1)) (by omega) (by omega) ?_
    exact hk _ _ _ _ _ ls (heq.2) hP hD hS (lv_sub hl [0, 1, 2, 3, 4] rfl)
  · exact absurd (heq.1) c1
set_option maxHeartbeats 4000000 in
set_option maxRecDepth 100000 in
theorem law_c9 (hC : lwC p l s m c dC dI cI cZ cJ b L xs sa sb) {i : Nat} (hi : 3 * i + 3 ≤ L) (hk : lwG p l e s m below meth c dC dI cI cZ cJ ad bd qo b 622 (i + 1) i) {n sc st en du th : Nat} {fo fk fv fr fc fb fp ft yk yv yr yt yl yb yp yg : Nat → Int32} {fl : Nat → Int64} {H : Heap} {locs : List Loc} {ls : Array Slot} (hR : Rel i (n, sc, st, en, du, fo, fk, fv, fr, fc, fb, fp, ft) (sc, st, en, du, th, yk, yv, yr, yt, yl, yb, yp, yg)) (hP : va_P (dC, dI) vwCl (wL cI cZ cJ ad bd qo (n, sc, st, en, du, fo, fk, fv, fr, fc, fb, fp, ft) (sc, st, en, du, th, yk, yv, yr, yt, yl, yb, yp, yg) fl) H) (hD : va_D (fun q : Nat => s.heap.size ≤ q) (wL cI cZ cJ ad bd qo (n, sc, st, en, du, fo, fk, fv, fr, fc, fb, fp, ft) (sc, st, en, du, th, yk, yv, yr, yt, yl, yb, yp, yg) fl)) (hS : va_S (fun q : Nat => s.heap.size ≤ q) s.heap H locs) (hl : lv_has ls 7 [(0, .ref b), (1, .ref (ad 0)), (2, .ref (bd 0)), (3, .ref qo), (4, .int (nI (3 * i)))]) : W p l e room_1 s m #[Value.ref b] below meth c H locs (20 + i) (30400 + 6 * i) (lw_Z below #[Value.ref b] s) (F0 m 383 ls []) := by
  obtain ⟨hx, hb, hml, hown, hts, hX, hbl, hK, hT, hlt, hL⟩ := hC
  have hA : ∀ q : Nat, s.heap.size ≤ q → (fun q : Nat => s.heap.size ≤ q) q := fun _ h => h
  have hbA : ¬ (fun q : Nat => s.heap.size ≤ q) b := Nat.not_le.mpr hbl
  obtain ⟨-, -, -, -, hn, hy, ⟨Bs, hbs⟩, ⟨Ps, hps⟩, O, K, hrr⟩ := id hR
  obtain ⟨n1, n2, n3, n4, n5, n6⟩ := id hn
  have hKc := hK.sub (tys' := kt cI cZ) [0, 1] rfl
  refine lv_aload_n hx hb dL_law_383 rfl (lv_at hl 1 rfl) ?_
  refine lv_aload_n hx hb dL_law_384 rfl (lv_at hl 0 rfl) ?_
  refine lv_iload hx hb dL_law_385 (lv_at hl 4 rfl) ?_
  refine lv_iconst (v := nI 1) hx hb dL_law_387 (by decide) ?_
  refine lv_iadd hx hb dL_law_388 ?_
  refine qa_top (nI_add (3 * i) 1) ?_
  refine qa_sld (i := 3 * i + 1) hx hb hX hbl hbA hS (by omega) (by omega) dL_law_389 ?_
  have hPc := hP.sub (ws' := (w0 cI cZ ad (n, sc, st, en, du, fo, fk, fv, fr, fc, fb, fp, ft))) [0, 1, 2, 3, 4, 5, 6, 7, 8] rfl
  refine vp_callSi (W.runV (As := [.int (xs (3 * i + 1))]) (rest := []) ⟨hx, hb, hml, hown, hts⟩ (c0_next l dC dI cI cZ ad n sc st en du fo fk fv fr fc fb fp ft (xs (3 * i + 1)) n6) (cwV 1 hts gL_law_X0_next rfl rfl rfl (by decide +kernel) ⟨Nat.le_of_ble_eq_true rfl, Nat.le_of_ble_eq_true rfl⟩) ⟨bl_r, va_recv hKc hPc (ci := 0) (q0 := 0) rfl rfl, fun U hU hW => ⟨rfl, by rw [hU]; exact hPc, va_K.moved hW.alike hKc⟩⟩ rfl rfl hl.1 rfl (lv_room (Nat.le_of_ble_eq_true rfl)) dL_law_390 ⟨by show 20 + i + 0 ≤ 1045; omega, by show 30400 + 6 * i + 0 ≤ 38468; omega⟩) (fun r0 q0 => ?_)
  refine lv_aload_n hx hb dL_law_393 rfl (lv_at hl 2 rfl) ?_
  refine lv_aload_n hx hb dL_law_394 rfl (lv_at hl 0 rfl) ?_
  refine lv_iload hx hb dL_law_395 (lv_at hl 4 rfl) ?_
  refine lv_iconst (v := nI 1) hx hb dL_law_397 (by decide) ?_
  refine lv_iadd hx hb dL_law_398 ?_
  refine qa_top (nI_add (3 * i) 1) ?_
  refine qa_sld (i := 3 * i + 1) hx hb hX hbl hbA hS (by omega) (by omega) dL_law_399 ?_
  have hPc := hP.sub (ws' := (w1 cI cZ bd (sc, st, en, du, th, yk, yv, yr, yt, yl, yb, yp, yg))) [9, 10, 11, 12, 13, 14, 15, 16, 17] rfl
  refine vp_callSi (W.runV (As := [.int (xs (3 * i + 1))]) (rest := [.int r0]) ⟨hx, hb, hml, hown, hts⟩ (c1_next l dC dI cI cZ bd sc st en du th yk yv yr yt yl yb yp yg (xs (3 * i + 1)) (by omega) (by omega)) (cwV 1 hts gL_law_X1_next rfl rfl rfl (by decide +kernel) ⟨Nat.le_of_ble_eq_true rfl, Nat.le_of_ble_eq_true rfl⟩) ⟨bl_r, va_recv hKc hPc (ci := 1) (q0 := 0) rfl rfl, fun U hU hW => ⟨rfl, by rw [hU]; exact hPc, va_K.moved hW.alike hKc⟩⟩ rfl rfl hl.1 rfl (lv_room (Nat.le_of_ble_eq_true rfl)) dL_law_400 ⟨by show 20 + i + 0 ≤ 1045; omega, by show 30400 + 6 * i + 0 ≤ 38468; omega⟩) (fun r1 q1 => ?_)
  have heq : r0 = r1 := by
    obtain ⟨j, j1, j2⟩ := q0
    rcases nx_eq hrr hy (by omega) j1 q1 with ⟨z1, z2⟩ | ⟨z1, z2⟩ <;> rcases j2 with ⟨y1, y2⟩ | ⟨y1, y2⟩ <;> first | (rw [z2, y2]; done) | omega
  refine lv_icmp_eq (tgt := 622) hx hb dL_law_403 (by decide) (fun c1 => ?_) (fun c1 => ?_)
  · refine W.widen (k := 20 + (i + 1)) (n := 30400 + 6 * (i + 1)) (by omega) (by omega) ?_
    exact hk _ _ _ _ _ ls (rel_up hR) hP hD hS (lv_sub hl [0, 1, 2, 3, 4] rfl)
  · exact absurd (heq) c1
set_option maxHeartbeats 4000000 in
set_option maxRecDepth 100000 in
theorem law_c10 (hC : lwC p l s m c dC dI cI cZ cJ b L xs sa sb) {i : Nat} (hi : 3 * i + 3 ≤ L) (hk : lwG p l e s m below meth c dC dI cI cZ cJ ad bd qo b 622 (i + 1) i) {n sc st en du th : Nat} {fo fk fv fr fc fb fp ft yk yv yr yt yl yb yp yg : Nat → Int32} {fl : Nat → Int64} {H : Heap} {locs : List Loc} {ls : Array Slot} (hR : Rel i (n, sc, st, en, du, fo, fk, fv, fr, fc, fb, fp, ft) (sc, st, en, du, th, yk, yv, yr, yt, yl, yb, yp, yg)) (hP : va_P (dC, dI) vwCl (wL cI cZ cJ ad bd qo (n, sc, st, en, du, fo, fk, fv, fr, fc, fb, fp, ft) (sc, st, en, du, th, yk, yv, yr, yt, yl, yb, yp, yg) fl) H) (hD : va_D (fun q : Nat => s.heap.size ≤ q) (wL cI cZ cJ ad bd qo (n, sc, st, en, du, fo, fk, fv, fr, fc, fb, fp, ft) (sc, st, en, du, th, yk, yv, yr, yt, yl, yb, yp, yg) fl)) (hS : va_S (fun q : Nat => s.heap.size ≤ q) s.heap H locs) (hl : lv_has ls 7 [(0, .ref b), (1, .ref (ad 0)), (2, .ref (bd 0)), (3, .ref qo), (4, .int (nI (3 * i)))]) : W p l e room_1 s m #[Value.ref b] below meth c H locs (20 + i) (30400 + 6 * i) (lw_Z below #[Value.ref b] s) (F0 m 408 ls []) := by
  obtain ⟨hx, hb, hml, hown, hts, hX, hbl, hK, hT, hlt, hL⟩ := hC
  have hA : ∀ q : Nat, s.heap.size ≤ q → (fun q : Nat => s.heap.size ≤ q) q := fun _ h => h
  have hbA : ¬ (fun q : Nat => s.heap.size ≤ q) b := Nat.not_le.mpr hbl
  obtain ⟨-, -, -, -, hn, hy, ⟨Bs, hbs⟩, ⟨Ps, hps⟩, O, K, hrr⟩ := id hR
  obtain ⟨n1, n2, n3, n4, n5, n6⟩ := id hn
  have hKc := hK.sub (tys' := kt cI cZ) [0, 1] rfl
  refine lv_aload_n hx hb dL_law_408 rfl (lv_at hl 1 rfl) ?_
  refine lv_aload_n hx hb dL_law_409 rfl (lv_at hl 0 rfl) ?_
  refine lv_iload hx hb dL_law_410 (lv_at hl 4 rfl) ?_
  refine lv_iconst (v := nI 1) hx hb dL_law_412 (by decide) ?_
  refine lv_iadd hx hb dL_law_413 ?_
  refine qa_top (nI_add (3 * i) 1) ?_
  refine qa_sld (i := 3 * i + 1) hx hb hX hbl hbA hS (by omega) (by omega) dL_law_414 ?_
  have hPc := hP.sub (ws' := (w0 cI cZ ad (n, sc, st, en, du, fo, fk, fv, fr, fc, fb, fp, ft))) [0, 1, 2, 3, 4, 5, 6, 7, 8] rfl
  have hDc := hD.sub (ws' := (w0 cI cZ ad (n, sc, st, en, du, fo, fk, fv, fr, fc, fb, fp, ft))) [0, 1, 2, 3, 4, 5, 6, 7, 8] (by decide) rfl
  have hFc := va_free (wc := (w0 cI cZ ad (n, sc, st, en, du, fo, fk, fv, fr, fc, fb, fp, ft))) hD hS hA [0, 1, 2, 3, 4, 5, 6, 7, 8] rfl
  refine va_calli (va_runV (As := [.int (xs (3 * i + 1))]) (rest := []) ⟨hx, hb, hml, hown, hts⟩ (c0_poll l dC dI cI cZ ad H.size n sc st en du fo fk fv fr fc fb fp ft (xs (3 * i + 1)) n6) (cwV 1 hts gL_law_X0_poll rfl rfl rfl (by decide +kernel) ⟨Nat.le_of_ble_eq_true rfl, Nat.le_of_ble_eq_true rfl⟩) ⟨bl_w, va_recv hKc hPc (ci := 0) (q0 := 0) rfl rfl, fun U hU hW => ⟨rfl, by rw [hU], by rw [hU]; exact hPc, va_K.moved hW.alike hKc, hDc.weaken (fun _ _ _ _ => trivial)⟩⟩ rfl rfl hl.1 rfl (lv_room (Nat.le_of_ble_eq_true rfl)) dL_law_415 ⟨by show 20 + i + 0 ≤ 1045; omega, by show 30400 + 6 * i + 0 ≤ 38468; omega⟩) hS (fun q _ h => hFc q h) hFc (fun r0 u9 t H1 locs ht hvm q0 hB hz1 hk1 hS => ?_)
  obtain ⟨n8, sc8, st8, en8, du8, fo8, fk8, fv8, fr8, fc8, fb8, fp8, ft8⟩ := u9
  obtain ⟨hP1, hK1, hD1⟩ := hB
  rw [ht] at hP1
  obtain ⟨hP, hD⟩ := va_join (wr := (w1 cI cZ bd (sc, st, en, du, th, yk, yv, yr, yt, yl, yb, yp, yg) ++ [(qo, .inl (cJ, 1, .inr (.inl fl)))])) (w1 := (w0 cI cZ ad (n8, sc8, st8, en8, du8, fo8, fk8, fv8, fr8, fc8, fb8, fp8, ft8))) hP hD [0, 1, 2, 3, 4, 5, 6, 7, 8] [9, 10, 11, 12, 13, 14, 15, 16, 17, 18] rfl rfl (by decide) (by decide) hk1 hFc hP1 hD1
  have hP := hP.sub (ws' := (wL cI cZ cJ ad bd qo (n8, sc8, st8, en8, du8, fo8, fk8, fv8, fr8, fc8, fb8, fp8, ft8) (sc, st, en, du, th, yk, yv, yr, yt, yl, yb, yp, yg) fl)) [10, 11, 12, 13, 14, 15, 16, 17, 18, 0, 1, 2, 3, 4, 5, 6, 7, 8, 9] rfl
  have hD := hD.sub (ws' := (wL cI cZ cJ ad bd qo (n8, sc8, st8, en8, du8, fo8, fk8, fv8, fr8, fc8, fb8, fp8, ft8) (sc, st, en, du, th, yk, yv, yr, yt, yl, yb, yp, yg) fl)) [10, 11, 12, 13, 14, 15, 16, 17, 18, 0, 1, 2, 3, 4, 5, 6, 7, 8, 9] (by decide) rfl
  generalize H1 = H at hP hS ⊢
  refine lv_aload_n hx hb dL_law_418 rfl (lv_at hl 2 rfl) ?_
  refine lv_aload_n hx hb dL_law_419 rfl (lv_at hl 0 rfl) ?_
  refine lv_iload hx hb dL_law_420 (lv_at hl 4 rfl) ?_
  refine lv_iconst (v := nI 1) hx hb dL_law_422 (by decide) ?_
  refine lv_iadd hx hb dL_law_423 ?_
  refine qa_top (nI_add (3 * i) 1) ?_
  refine qa_sld (i := 3 * i + 1) hx hb hX hbl hbA hS (by omega) (by omega) dL_law_424 ?_
  have hPc := hP.sub (ws' := (w1 cI cZ bd (sc, st, en, du, th, yk, yv, yr, yt, yl, yb, yp, yg))) [9, 10, 11, 12, 13, 14, 15, 16, 17] rfl
  have hDc := hD.sub (ws' := (w1 cI cZ bd (sc, st, en, du, th, yk, yv, yr, yt, yl, yb, yp, yg))) [9, 10, 11, 12, 13, 14, 15, 16, 17] (by decide) rfl
  have hFc := va_free (wc := (w1 cI cZ bd (sc, st, en, du, th, yk, yv, yr, yt, yl, yb, yp, yg))) hD hS hA [9, 10, 11, 12, 13, 14, 15, 16, 17] rfl
  refine va_calli (va_runV (As := [.int (xs (3 * i + 1))]) (rest := [.int r0]) ⟨hx, hb, hml, hown, hts⟩ (c1_poll l dC dI cI cZ bd H.size sc st en du th yk yv yr yt yl yb yp yg (xs (3 * i + 1)) (by omega) (by omega)) (cwV 1 hts gL_law_X1_poll rfl rfl rfl (by decide +kernel) ⟨Nat.le_of_ble_eq_true rfl, Nat.le_of_ble_eq_true rfl⟩) ⟨bl_w, va_recv hKc hPc (ci := 1) (q0 := 0) rfl rfl, fun U hU hW => ⟨rfl, by rw [hU], by rw [hU]; exact hPc, va_K.moved hW.alike hKc, hDc.weaken (fun _ _ _ _ => trivial)⟩⟩ rfl rfl hl.1 rfl (lv_room (Nat.le_of_ble_eq_true rfl)) dL_law_425 ⟨by show 20 + i + 0 ≤ 1045; omega, by show 30400 + 6 * i + 0 ≤ 38468; omega⟩) hS (fun q _ h => hFc q h) hFc (fun r1 v9 t H1 locs ht hvm q1 hB hz1 hk1 hS => ?_)
  obtain ⟨sg3, st3, en3, du3, th3, yk3, yv3, yr3, yt3, yl3, yb3, yp3, yg3⟩ := v9
  obtain ⟨hP1, hK1, hD1⟩ := hB
  rw [ht] at hP1
  obtain ⟨hP, hD⟩ := va_join (wr := (w0 cI cZ ad (n8, sc8, st8, en8, du8, fo8, fk8, fv8, fr8, fc8, fb8, fp8, ft8) ++ [(qo, .inl (cJ, 1, .inr (.inl fl)))])) (w1 := (w1 cI cZ bd (sg3, st3, en3, du3, th3, yk3, yv3, yr3, yt3, yl3, yb3, yp3, yg3))) hP hD [9, 10, 11, 12, 13, 14, 15, 16, 17] [0, 1, 2, 3, 4, 5, 6, 7, 8, 18] rfl rfl (by decide) (by decide) hk1 hFc hP1 hD1
  have hP := hP.sub (ws' := (wL cI cZ cJ ad bd qo (n8, sc8, st8, en8, du8, fo8, fk8, fv8, fr8, fc8, fb8, fp8, ft8) (sg3, st3, en3, du3, th3, yk3, yv3, yr3, yt3, yl3, yb3, yp3, yg3) fl)) [0, 1, 2, 3, 4, 5, 6, 7, 8, 10, 11, 12, 13, 14, 15, 16, 17, 18, 9] rfl
  have hD := hD.sub (ws' := (wL cI cZ cJ ad bd qo (n8, sc8, st8, en8, du8, fo8, fk8, fv8, fr8, fc8, fb8, fp8, ft8) (sg3, st3, en3, du3, th3, yk3, yv3, yr3, yt3, yl3, yb3, yp3, yg3) fl)) [0, 1, 2, 3, 4, 5, 6, 7, 8, 10, 11, 12, 13, 14, 15, 16, 17, 18, 9] (by decide) rfl
  generalize H1 = H at hP hS ⊢
  have heq := poll_eq hR (by omega) q0 q1
  refine lv_icmp_eq (tgt := 622) hx hb dL_law_428 (by decide) (fun c1 => ?_) (fun c1 => ?_)
  · refine W.widen (k := 20 + (i + 1)) (n := 30400 + 6 * (i + 1)) (by omega) (by omega) ?_
    exact hk _ _ _ _ _ ls (heq.2) hP hD hS (lv_sub hl [0, 1, 2, 3, 4] rfl)
  · exact absurd (heq.1) c1
set_option maxHeartbeats 4000000 in
set_option maxRecDepth 100000 in
theorem law_c11 (hC : lwC p l s m c dC dI cI cZ cJ b L xs sa sb) {i : Nat} (hi : 3 * i + 3 ≤ L) (hk : lwG p l e s m below meth c dC dI cI cZ cJ ad bd qo b 622 (i + 1) i) {n sc st en du th : Nat} {fo fk fv fr fc fb fp ft yk yv yr yt yl yb yp yg : Nat → Int32} {fl : Nat → Int64} {H : Heap} {locs : List Loc} {ls : Array Slot} (hR : Rel i (n, sc, st, en, du, fo, fk, fv, fr, fc, fb, fp, ft) (sc, st, en, du, th, yk, yv, yr, yt, yl, yb, yp, yg)) (hP : va_P (dC, dI) vwCl (wL cI cZ cJ ad bd qo (n, sc, st, en, du, fo, fk, fv, fr, fc, fb, fp, ft) (sc, st, en, du, th, yk, yv, yr, yt, yl, yb, yp, yg) fl) H) (hD : va_D (fun q : Nat => s.heap.size ≤ q) (wL cI cZ cJ ad bd qo (n, sc, st, en, du, fo, fk, fv, fr, fc, fb, fp, ft) (sc, st, en, du, th, yk, yv, yr, yt, yl, yb, yp, yg) fl)) (hS : va_S (fun q : Nat => s.heap.size ≤ q) s.heap H locs) (hl : lv_has ls 7 [(0, .ref b), (1, .ref (ad 0)), (2, .ref (bd 0)), (3, .ref qo), (4, .int (nI (3 * i)))]) : W p l e room_1 s m #[Value.ref b] below meth c H locs (20 + i) (30400 + 6 * i) (lw_Z below #[Value.ref b] s) (F0 m 433 ls []) := by
  obtain ⟨hx, hb, hml, hown, hts, hX, hbl, hK, hT, hlt, hL⟩ := hC
  have hA : ∀ q : Nat, s.heap.size ≤ q → (fun q : Nat => s.heap.size ≤ q) q := fun _ h => h
  have hbA : ¬ (fun q : Nat => s.heap.size ≤ q) b := Nat.not_le.mpr hbl
  obtain ⟨-, -, -, -, hn, hy, ⟨Bs, hbs⟩, ⟨Ps, hps⟩, O, K, hrr⟩ := id hR
  obtain ⟨n1, n2, n3, n4, n5, n6⟩ := id hn
  have hKc := hK.sub (tys' := kt cI cZ) [0, 1] rfl
  refine lv_aload_n hx hb dL_law_433 rfl (lv_at hl 1 rfl) ?_
  refine lv_aload_n hx hb dL_law_434 rfl (lv_at hl 0 rfl) ?_
  refine lv_iload hx hb dL_law_435 (lv_at hl 4 rfl) ?_
  refine lv_iconst (v := nI 1) hx hb dL_law_437 (by decide) ?_
  refine lv_iadd hx hb dL_law_438 ?_
  refine qa_top (nI_add (3 * i) 1) ?_
  refine qa_sld (i := 3 * i + 1) hx hb hX hbl hbA hS (by omega) (by omega) dL_law_439 ?_
  refine lv_aload_n hx hb dL_law_440 rfl (lv_at hl 0 rfl) ?_
  refine lv_iload hx hb dL_law_441 (lv_at hl 4 rfl) ?_
  refine lv_iconst (v := nI 2) hx hb dL_law_443 (by decide) ?_
  refine lv_iadd hx hb dL_law_444 ?_
  refine qa_top (nI_add (3 * i) 2) ?_
  refine qa_sld (i := 3 * i + 2) hx hb hX hbl hbA hS (by omega) (by omega) dL_law_445 ?_
  have hPc := hP.sub (ws' := (w0 cI cZ ad (n, sc, st, en, du, fo, fk, fv, fr, fc, fb, fp, ft))) [0, 1, 2, 3, 4, 5, 6, 7, 8] rfl
  have hDc := hD.sub (ws' := (w0 cI cZ ad (n, sc, st, en, du, fo, fk, fv, fr, fc, fb, fp, ft))) [0, 1, 2, 3, 4, 5, 6, 7, 8] (by decide) rfl
  have hFc := va_free (wc := (w0 cI cZ ad (n, sc, st, en, du, fo, fk, fv, fr, fc, fb, fp, ft))) hD hS hA [0, 1, 2, 3, 4, 5, 6, 7, 8] rfl
  refine va_calli (va_runV (As := [.int (xs (3 * i + 1)), .int (xs (3 * i + 2))]) (rest := []) ⟨hx, hb, hml, hown, hts⟩ (c0_commit l dC dI cI cZ ad H.size n sc st en du fo fk fv fr fc fb fp ft (xs (3 * i + 1)) (xs (3 * i + 2)) ) (cwV 2 hts gL_law_X0_commit rfl rfl rfl (by decide +kernel) ⟨Nat.le_of_ble_eq_true rfl, Nat.le_of_ble_eq_true rfl⟩) ⟨bl_w, va_recv hKc hPc (ci := 0) (q0 := 0) rfl rfl, fun U hU hW => ⟨rfl, by rw [hU], by rw [hU]; exact hPc, va_K.moved hW.alike hKc, hDc.weaken (fun _ _ _ _ => trivial)⟩⟩ rfl rfl hl.1 rfl (lv_room (Nat.le_of_ble_eq_true rfl)) dL_law_446 ⟨by show 20 + i + 0 ≤ 1045; omega, by show 30400 + 6 * i + 0 ≤ 38468; omega⟩) hS (fun q _ h => hFc q h) hFc (fun r0 u9 t H1 locs ht hvm q0 hB hz1 hk1 hS => ?_)
  obtain ⟨n8, sc8, st8, en8, du8, fo8, fk8, fv8, fr8, fc8, fb8, fp8, ft8⟩ := u9
  obtain ⟨hP1, hK1, hD1⟩ := hB
  rw [ht] at hP1
  obtain ⟨hP, hD⟩ := va_join (wr := (w1 cI cZ bd (sc, st, en, du, th, yk, yv, yr, yt, yl, yb, yp, yg) ++ [(qo, .inl (cJ, 1, .inr (.inl fl)))])) (w1 := (w0 cI cZ ad (n8, sc8, st8, en8, du8, fo8, fk8, fv8, fr8, fc8, fb8, fp8, ft8))) hP hD [0, 1, 2, 3, 4, 5, 6, 7, 8] [9, 10, 11, 12, 13, 14, 15, 16, 17, 18] rfl rfl (by decide) (by decide) hk1 hFc hP1 hD1
  have hP := hP.sub (ws' := (wL cI cZ cJ ad bd qo (n8, sc8, st8, en8, du8, fo8, fk8, fv8, fr8, fc8, fb8, fp8, ft8) (sc, st, en, du, th, yk, yv, yr, yt, yl, yb, yp, yg) fl)) [10, 11, 12, 13, 14, 15, 16, 17, 18, 0, 1, 2, 3, 4, 5, 6, 7, 8, 9] rfl
  have hD := hD.sub (ws' := (wL cI cZ cJ ad bd qo (n8, sc8, st8, en8, du8, fo8, fk8, fv8, fr8, fc8, fb8, fp8, ft8) (sc, st, en, du, th, yk, yv, yr, yt, yl, yb, yp, yg) fl)) [10, 11, 12, 13, 14, 15, 16, 17, 18, 0, 1, 2, 3, 4, 5, 6, 7, 8, 9] (by decide) rfl
  generalize H1 = H at hP hS ⊢
  refine lv_aload_n hx hb dL_law_449 rfl (lv_at hl 2 rfl) ?_
  refine lv_aload_n hx hb dL_law_450 rfl (lv_at hl 0 rfl) ?_
  refine lv_iload hx hb dL_law_451 (lv_at hl 4 rfl) ?_
  refine lv_iconst (v := nI 1) hx hb dL_law_453 (by decide) ?_
  refine lv_iadd hx hb dL_law_454 ?_
  refine qa_top (nI_add (3 * i) 1) ?_
  refine qa_sld (i := 3 * i + 1) hx hb hX hbl hbA hS (by omega) (by omega) dL_law_455 ?_
  refine lv_aload_n hx hb dL_law_456 rfl (lv_at hl 0 rfl) ?_
  refine lv_iload hx hb dL_law_457 (lv_at hl 4 rfl) ?_
  refine lv_iconst (v := nI 2) hx hb dL_law_459 (by decide) ?_
  refine lv_iadd hx hb dL_law_460 ?_
  refine qa_top (nI_add (3 * i) 2) ?_
  refine qa_sld (i := 3 * i + 2) hx hb hX hbl hbA hS (by omega) (by omega) dL_law_461 ?_
  have hPc := hP.sub (ws' := (w1 cI cZ bd (sc, st, en, du, th, yk, yv, yr, yt, yl, yb, yp, yg))) [9, 10, 11, 12, 13, 14, 15, 16, 17] rfl
  have hDc := hD.sub (ws' := (w1 cI cZ bd (sc, st, en, du, th, yk, yv, yr, yt, yl, yb, yp, yg))) [9, 10, 11, 12, 13, 14, 15, 16, 17] (by decide) rfl
  have hFc := va_free (wc := (w1 cI cZ bd (sc, st, en, du, th, yk, yv, yr, yt, yl, yb, yp, yg))) hD hS hA [9, 10, 11, 12, 13, 14, 15, 16, 17] rfl
  refine va_calli (va_runV (As := [.int (xs (3 * i + 1)), .int (xs (3 * i + 2))]) (rest := [.int r0]) ⟨hx, hb, hml, hown, hts⟩ (c1_commit l dC dI cI cZ bd H.size sc st en du th yk yv yr yt yl yb yp yg (xs (3 * i + 1)) (xs (3 * i + 2)) ) (cwV 2 hts gL_law_X1_commit rfl rfl rfl (by decide +kernel) ⟨Nat.le_of_ble_eq_true rfl, Nat.le_of_ble_eq_true rfl⟩) ⟨bl_w, va_recv hKc hPc (ci := 1) (q0 := 0) rfl rfl, fun U hU hW => ⟨rfl, by rw [hU], by rw [hU]; exact hPc, va_K.moved hW.alike hKc, hDc.weaken (fun _ _ _ _ => trivial)⟩⟩ rfl rfl hl.1 rfl (lv_room (Nat.le_of_ble_eq_true rfl)) dL_law_462 ⟨by show 20 + i + 0 ≤ 1045; omega, by show 30400 + 6 * i + 0 ≤ 38468; omega⟩) hS (fun q _ h => hFc q h) hFc (fun r1 v9 t H1 locs ht hvm q1 hB hz1 hk1 hS => ?_)
  obtain ⟨sg3, st3, en3, du3, th3, yk3, yv3, yr3, yt3, yl3, yb3, yp3, yg3⟩ := v9
  obtain ⟨hP1, hK1, hD1⟩ := hB
  rw [ht] at hP1
  obtain ⟨hP, hD⟩ := va_join (wr := (w0 cI cZ ad (n8, sc8, st8, en8, du8, fo8, fk8, fv8, fr8, fc8, fb8, fp8, ft8) ++ [(qo, .inl (cJ, 1, .inr (.inl fl)))])) (w1 := (w1 cI cZ bd (sg3, st3, en3, du3, th3, yk3, yv3, yr3, yt3, yl3, yb3, yp3, yg3))) hP hD [9, 10, 11, 12, 13, 14, 15, 16, 17] [0, 1, 2, 3, 4, 5, 6, 7, 8, 18] rfl rfl (by decide) (by decide) hk1 hFc hP1 hD1
  have hP := hP.sub (ws' := (wL cI cZ cJ ad bd qo (n8, sc8, st8, en8, du8, fo8, fk8, fv8, fr8, fc8, fb8, fp8, ft8) (sg3, st3, en3, du3, th3, yk3, yv3, yr3, yt3, yl3, yb3, yp3, yg3) fl)) [0, 1, 2, 3, 4, 5, 6, 7, 8, 10, 11, 12, 13, 14, 15, 16, 17, 18, 9] rfl
  have hD := hD.sub (ws' := (wL cI cZ cJ ad bd qo (n8, sc8, st8, en8, du8, fo8, fk8, fv8, fr8, fc8, fb8, fp8, ft8) (sg3, st3, en3, du3, th3, yk3, yv3, yr3, yt3, yl3, yb3, yp3, yg3) fl)) [0, 1, 2, 3, 4, 5, 6, 7, 8, 10, 11, 12, 13, 14, 15, 16, 17, 18, 9] (by decide) rfl
  generalize H1 = H at hP hS ⊢
  have heq := commit_eq hR (by omega) q0 q1
  refine lv_icmp_eq (tgt := 622) hx hb dL_law_465 (by decide) (fun c1 => ?_) (fun c1 => ?_)
  · refine W.widen (k := 20 + (i + 1)) (n := 30400 + 6 * (i + 1)) (by omega) (by omega) ?_
    exact hk _ _ _ _ _ ls (heq.2) hP hD hS (lv_sub hl [0, 1, 2, 3, 4] rfl)
  · exact absurd (heq.1) c1
set_option maxHeartbeats 4000000 in
set_option maxRecDepth 100000 in
theorem law_c12 (hC : lwC p l s m c dC dI cI cZ cJ b L xs sa sb) {i : Nat} (hi : 3 * i + 3 ≤ L) (hk : lwG p l e s m below meth c dC dI cI cZ cJ ad bd qo b 622 (i + 1) i) {n sc st en du th : Nat} {fo fk fv fr fc fb fp ft yk yv yr yt yl yb yp yg : Nat → Int32} {fl : Nat → Int64} {H : Heap} {locs : List Loc} {ls : Array Slot} (hR : Rel i (n, sc, st, en, du, fo, fk, fv, fr, fc, fb, fp, ft) (sc, st, en, du, th, yk, yv, yr, yt, yl, yb, yp, yg)) (hP : va_P (dC, dI) vwCl (wL cI cZ cJ ad bd qo (n, sc, st, en, du, fo, fk, fv, fr, fc, fb, fp, ft) (sc, st, en, du, th, yk, yv, yr, yt, yl, yb, yp, yg) fl) H) (hD : va_D (fun q : Nat => s.heap.size ≤ q) (wL cI cZ cJ ad bd qo (n, sc, st, en, du, fo, fk, fv, fr, fc, fb, fp, ft) (sc, st, en, du, th, yk, yv, yr, yt, yl, yb, yp, yg) fl)) (hS : va_S (fun q : Nat => s.heap.size ≤ q) s.heap H locs) (hl : lv_has ls 7 [(0, .ref b), (1, .ref (ad 0)), (2, .ref (bd 0)), (3, .ref qo), (4, .int (nI (3 * i)))]) : W p l e room_1 s m #[Value.ref b] below meth c H locs (20 + i) (30400 + 6 * i) (lw_Z below #[Value.ref b] s) (F0 m 470 ls []) := by
  obtain ⟨hx, hb, hml, hown, hts, hX, hbl, hK, hT, hlt, hL⟩ := hC
  have hA : ∀ q : Nat, s.heap.size ≤ q → (fun q : Nat => s.heap.size ≤ q) q := fun _ h => h
  have hbA : ¬ (fun q : Nat => s.heap.size ≤ q) b := Nat.not_le.mpr hbl
  obtain ⟨-, -, -, -, hn, hy, ⟨Bs, hbs⟩, ⟨Ps, hps⟩, O, K, hrr⟩ := id hR
  obtain ⟨n1, n2, n3, n4, n5, n6⟩ := id hn
  have hKc := hK.sub (tys' := kt cI cZ) [0, 1] rfl
  refine lv_aload_n hx hb dL_law_470 rfl (lv_at hl 1 rfl) ?_
  refine lv_aload_n hx hb dL_law_471 rfl (lv_at hl 0 rfl) ?_
  refine lv_iload hx hb dL_law_472 (lv_at hl 4 rfl) ?_
  refine lv_iconst (v := nI 1) hx hb dL_law_474 (by decide) ?_
  refine lv_iadd hx hb dL_law_475 ?_
  refine qa_top (nI_add (3 * i) 1) ?_
  refine qa_sld (i := 3 * i + 1) hx hb hX hbl hbA hS (by omega) (by omega) dL_law_476 ?_
  have hPc := hP.sub (ws' := (w0 cI cZ ad (n, sc, st, en, du, fo, fk, fv, fr, fc, fb, fp, ft))) [0, 1, 2, 3, 4, 5, 6, 7, 8] rfl
  refine vp_callSi (W.runV (As := [.int (xs (3 * i + 1))]) (rest := []) ⟨hx, hb, hml, hown, hts⟩ (c0_position l dC dI cI cZ ad n sc st en du fo fk fv fr fc fb fp ft (xs (3 * i + 1)) ) (cwV 1 hts gL_law_X0_position rfl rfl rfl (by decide +kernel) ⟨Nat.le_of_ble_eq_true rfl, Nat.le_of_ble_eq_true rfl⟩) ⟨bl_r, va_recv hKc hPc (ci := 0) (q0 := 0) rfl rfl, fun U hU hW => ⟨rfl, by rw [hU]; exact hPc, va_K.moved hW.alike hKc⟩⟩ rfl rfl hl.1 rfl (lv_room (Nat.le_of_ble_eq_true rfl)) dL_law_477 ⟨by show 20 + i + 0 ≤ 1045; omega, by show 30400 + 6 * i + 0 ≤ 38468; omega⟩) (fun r0 q0 => ?_)
  refine lv_aload_n hx hb dL_law_480 rfl (lv_at hl 2 rfl) ?_
  refine lv_aload_n hx hb dL_law_481 rfl (lv_at hl 0 rfl) ?_
  refine lv_iload hx hb dL_law_482 (lv_at hl 4 rfl) ?_
  refine lv_iconst (v := nI 1) hx hb dL_law_484 (by decide) ?_
  refine lv_iadd hx hb dL_law_485 ?_
  refine qa_top (nI_add (3 * i) 1) ?_
  refine qa_sld (i := 3 * i + 1) hx hb hX hbl hbA hS (by omega) (by omega) dL_law_486 ?_
  have hPc := hP.sub (ws' := (w1 cI cZ bd (sc, st, en, du, th, yk, yv, yr, yt, yl, yb, yp, yg))) [9, 10, 11, 12, 13, 14, 15, 16, 17] rfl
  refine vp_callSi (W.runV (As := [.int (xs (3 * i + 1))]) (rest := [.int r0]) ⟨hx, hb, hml, hown, hts⟩ (c1_position l dC dI cI cZ bd sc st en du th yk yv yr yt yl yb yp yg (xs (3 * i + 1)) ) (cwV 1 hts gL_law_X1_position rfl rfl rfl (by decide +kernel) ⟨Nat.le_of_ble_eq_true rfl, Nat.le_of_ble_eq_true rfl⟩) ⟨bl_r, va_recv hKc hPc (ci := 1) (q0 := 0) rfl rfl, fun U hU hW => ⟨rfl, by rw [hU]; exact hPc, va_K.moved hW.alike hKc⟩⟩ rfl rfl hl.1 rfl (lv_room (Nat.le_of_ble_eq_true rfl)) dL_law_487 ⟨by show 20 + i + 0 ≤ 1045; omega, by show 30400 + 6 * i + 0 ≤ 38468; omega⟩) (fun r1 q1 => ?_)
  have heq : r0 = r1 := position_eq hps q0 q1
  refine lv_icmp_eq (tgt := 622) hx hb dL_law_490 (by decide) (fun c1 => ?_) (fun c1 => ?_)
  · refine W.widen (k := 20 + (i + 1)) (n := 30400 + 6 * (i + 1)) (by omega) (by omega) ?_
    exact hk _ _ _ _ _ ls (rel_up hR) hP hD hS (lv_sub hl [0, 1, 2, 3, 4] rfl)
  · exact absurd (heq) c1
set_option maxHeartbeats 4000000 in
set_option maxRecDepth 100000 in
theorem law_c13 (hC : lwC p l s m c dC dI cI cZ cJ b L xs sa sb) {i : Nat} (hi : 3 * i + 3 ≤ L) (hk : lwG p l e s m below meth c dC dI cI cZ cJ ad bd qo b 622 (i + 1) i) {n sc st en du th : Nat} {fo fk fv fr fc fb fp ft yk yv yr yt yl yb yp yg : Nat → Int32} {fl : Nat → Int64} {H : Heap} {locs : List Loc} {ls : Array Slot} (hR : Rel i (n, sc, st, en, du, fo, fk, fv, fr, fc, fb, fp, ft) (sc, st, en, du, th, yk, yv, yr, yt, yl, yb, yp, yg)) (hP : va_P (dC, dI) vwCl (wL cI cZ cJ ad bd qo (n, sc, st, en, du, fo, fk, fv, fr, fc, fb, fp, ft) (sc, st, en, du, th, yk, yv, yr, yt, yl, yb, yp, yg) fl) H) (hD : va_D (fun q : Nat => s.heap.size ≤ q) (wL cI cZ cJ ad bd qo (n, sc, st, en, du, fo, fk, fv, fr, fc, fb, fp, ft) (sc, st, en, du, th, yk, yv, yr, yt, yl, yb, yp, yg) fl)) (hS : va_S (fun q : Nat => s.heap.size ≤ q) s.heap H locs) (hl : lv_has ls 7 [(0, .ref b), (1, .ref (ad 0)), (2, .ref (bd 0)), (3, .ref qo), (4, .int (nI (3 * i)))]) : W p l e room_1 s m #[Value.ref b] below meth c H locs (20 + i) (30400 + 6 * i) (lw_Z below #[Value.ref b] s) (F0 m 495 ls []) := by
  obtain ⟨hx, hb, hml, hown, hts, hX, hbl, hK, hT, hlt, hL⟩ := hC
  have hA : ∀ q : Nat, s.heap.size ≤ q → (fun q : Nat => s.heap.size ≤ q) q := fun _ h => h
  have hbA : ¬ (fun q : Nat => s.heap.size ≤ q) b := Nat.not_le.mpr hbl
  obtain ⟨-, -, -, -, hn, hy, ⟨Bs, hbs⟩, ⟨Ps, hps⟩, O, K, hrr⟩ := id hR
  obtain ⟨n1, n2, n3, n4, n5, n6⟩ := id hn
  have hKc := hK.sub (tys' := kt cI cZ) [0, 1] rfl
  refine lv_aload_n hx hb dL_law_495 rfl (lv_at hl 1 rfl) ?_
  refine lv_aload_n hx hb dL_law_496 rfl (lv_at hl 0 rfl) ?_
  refine lv_iload hx hb dL_law_497 (lv_at hl 4 rfl) ?_
  refine lv_iconst (v := nI 1) hx hb dL_law_499 (by decide) ?_
  refine lv_iadd hx hb dL_law_500 ?_
  refine qa_top (nI_add (3 * i) 1) ?_
  refine qa_sld (i := 3 * i + 1) hx hb hX hbl hbA hS (by omega) (by omega) dL_law_501 ?_
  have hPc := hP.sub (ws' := (w0 cI cZ ad (n, sc, st, en, du, fo, fk, fv, fr, fc, fb, fp, ft))) [0, 1, 2, 3, 4, 5, 6, 7, 8] rfl
  refine vp_callSi (W.runV (As := [.int (xs (3 * i + 1))]) (rest := []) ⟨hx, hb, hml, hown, hts⟩ (c0_lag l dC dI cI cZ ad n sc st en du fo fk fv fr fc fb fp ft (xs (3 * i + 1)) n6) (cwV 1 hts gL_law_X0_lag rfl rfl rfl (by decide +kernel) ⟨Nat.le_of_ble_eq_true rfl, Nat.le_of_ble_eq_true rfl⟩) ⟨bl_r, va_recv hKc hPc (ci := 0) (q0 := 0) rfl rfl, fun U hU hW => ⟨rfl, by rw [hU]; exact hPc, va_K.moved hW.alike hKc⟩⟩ rfl rfl hl.1 rfl (lv_room (Nat.le_of_ble_eq_true rfl)) dL_law_502 ⟨by show 20 + i + 0 ≤ 1045; omega, by show 30400 + 6 * i + 0 ≤ 38468; omega⟩) (fun r0 q0 => ?_)
  refine lv_aload_n hx hb dL_law_505 rfl (lv_at hl 2 rfl) ?_
  refine lv_aload_n hx hb dL_law_506 rfl (lv_at hl 0 rfl) ?_
  refine lv_iload hx hb dL_law_507 (lv_at hl 4 rfl) ?_
  refine lv_iconst (v := nI 1) hx hb dL_law_509 (by decide) ?_
  refine lv_iadd hx hb dL_law_510 ?_
  refine qa_top (nI_add (3 * i) 1) ?_
  refine qa_sld (i := 3 * i + 1) hx hb hX hbl hbA hS (by omega) (by omega) dL_law_511 ?_
  have hPc := hP.sub (ws' := (w1 cI cZ bd (sc, st, en, du, th, yk, yv, yr, yt, yl, yb, yp, yg))) [9, 10, 11, 12, 13, 14, 15, 16, 17] rfl
  refine vp_callSi (W.runV (As := [.int (xs (3 * i + 1))]) (rest := [.int r0]) ⟨hx, hb, hml, hown, hts⟩ (c1_lag l dC dI cI cZ bd sc st en du th yk yv yr yt yl yb yp yg (xs (3 * i + 1)) Ps (by omega) (fun g hg => ⟨(hps g hg).2.1, by have := (hps g hg).2.2; omega⟩)) (cwV 1 hts gL_law_X1_lag rfl rfl rfl (by decide +kernel) ⟨Nat.le_of_ble_eq_true rfl, Nat.le_of_ble_eq_true rfl⟩) ⟨bl_r, va_recv hKc hPc (ci := 1) (q0 := 0) rfl rfl, fun U hU hW => ⟨rfl, by rw [hU]; exact hPc, va_K.moved hW.alike hKc⟩⟩ rfl rfl hl.1 rfl (lv_room (Nat.le_of_ble_eq_true rfl)) dL_law_512 ⟨by show 20 + i + 0 ≤ 1045; omega, by show 30400 + 6 * i + 0 ≤ 38468; omega⟩) (fun r1 q1 => ?_)
  have heq : r0 = r1 := lags_eq hrr hy hps (by omega) q0 q1
  refine lv_icmp_eq (tgt := 622) hx hb dL_law_515 (by decide) (fun c1 => ?_) (fun c1 => ?_)
  · refine W.widen (k := 20 + (i + 1)) (n := 30400 + 6 * (i + 1)) (by omega) (by omega) ?_
    exact hk _ _ _ _ _ ls (rel_up hR) hP hD hS (lv_sub hl [0, 1, 2, 3, 4] rfl)
  · exact absurd (heq) c1
set_option maxHeartbeats 4000000 in
set_option maxRecDepth 100000 in
theorem law_c14 (hC : lwC p l s m c dC dI cI cZ cJ b L xs sa sb) {i : Nat} (hi : 3 * i + 3 ≤ L) (hk : lwG p l e s m below meth c dC dI cI cZ cJ ad bd qo b 622 (i + 1) i) {n sc st en du th : Nat} {fo fk fv fr fc fb fp ft yk yv yr yt yl yb yp yg : Nat → Int32} {fl : Nat → Int64} {H : Heap} {locs : List Loc} {ls : Array Slot} (hR : Rel i (n, sc, st, en, du, fo, fk, fv, fr, fc, fb, fp, ft) (sc, st, en, du, th, yk, yv, yr, yt, yl, yb, yp, yg)) (hP : va_P (dC, dI) vwCl (wL cI cZ cJ ad bd qo (n, sc, st, en, du, fo, fk, fv, fr, fc, fb, fp, ft) (sc, st, en, du, th, yk, yv, yr, yt, yl, yb, yp, yg) fl) H) (hD : va_D (fun q : Nat => s.heap.size ≤ q) (wL cI cZ cJ ad bd qo (n, sc, st, en, du, fo, fk, fv, fr, fc, fb, fp, ft) (sc, st, en, du, th, yk, yv, yr, yt, yl, yb, yp, yg) fl)) (hS : va_S (fun q : Nat => s.heap.size ≤ q) s.heap H locs) (hl : lv_has ls 7 [(0, .ref b), (1, .ref (ad 0)), (2, .ref (bd 0)), (3, .ref qo), (4, .int (nI (3 * i)))]) : W p l e room_1 s m #[Value.ref b] below meth c H locs (20 + i) (30400 + 6 * i) (lw_Z below #[Value.ref b] s) (F0 m 520 ls []) := by
  obtain ⟨hx, hb, hml, hown, hts, hX, hbl, hK, hT, hlt, hL⟩ := hC
  have hA : ∀ q : Nat, s.heap.size ≤ q → (fun q : Nat => s.heap.size ≤ q) q := fun _ h => h
  have hbA : ¬ (fun q : Nat => s.heap.size ≤ q) b := Nat.not_le.mpr hbl
  obtain ⟨-, -, -, -, hn, hy, ⟨Bs, hbs⟩, ⟨Ps, hps⟩, O, K, hrr⟩ := id hR
  obtain ⟨n1, n2, n3, n4, n5, n6⟩ := id hn
  have hKc := hK.sub (tys' := kt cI cZ) [0, 1] rfl
  refine lv_aload_n hx hb dL_law_520 rfl (lv_at hl 1 rfl) ?_
  refine lv_aload_n hx hb dL_law_521 rfl (lv_at hl 0 rfl) ?_
  refine lv_iload hx hb dL_law_522 (lv_at hl 4 rfl) ?_
  refine lv_iconst (v := nI 1) hx hb dL_law_524 (by decide) ?_
  refine lv_iadd hx hb dL_law_525 ?_
  refine qa_top (nI_add (3 * i) 1) ?_
  refine qa_sld (i := 3 * i + 1) hx hb hX hbl hbA hS (by omega) (by omega) dL_law_526 ?_
  have hPc := hP.sub (ws' := (w0 cI cZ ad (n, sc, st, en, du, fo, fk, fv, fr, fc, fb, fp, ft))) [0, 1, 2, 3, 4, 5, 6, 7, 8] rfl
  refine vp_callSi (W.runV (As := [.int (xs (3 * i + 1))]) (rest := []) ⟨hx, hb, hml, hown, hts⟩ (c0_latest l dC dI cI cZ ad n sc st en du fo fk fv fr fc fb fp ft (xs (3 * i + 1)) n6) (cwV 1 hts gL_law_X0_latest rfl rfl rfl (by decide +kernel) ⟨Nat.le_of_ble_eq_true rfl, Nat.le_of_ble_eq_true rfl⟩) ⟨bl_r, va_recv hKc hPc (ci := 0) (q0 := 0) rfl rfl, fun U hU hW => ⟨rfl, by rw [hU]; exact hPc, va_K.moved hW.alike hKc⟩⟩ rfl rfl hl.1 rfl (lv_room (Nat.le_of_ble_eq_true rfl)) dL_law_527 ⟨by show 20 + i + 0 ≤ 1045; omega, by show 30400 + 6 * i + 0 ≤ 38468; omega⟩) (fun r0 q0 => ?_)
  refine lv_aload_n hx hb dL_law_530 rfl (lv_at hl 2 rfl) ?_
  refine lv_aload_n hx hb dL_law_531 rfl (lv_at hl 0 rfl) ?_
  refine lv_iload hx hb dL_law_532 (lv_at hl 4 rfl) ?_
  refine lv_iconst (v := nI 1) hx hb dL_law_534 (by decide) ?_
  refine lv_iadd hx hb dL_law_535 ?_
  refine qa_top (nI_add (3 * i) 1) ?_
  refine qa_sld (i := 3 * i + 1) hx hb hX hbl hbA hS (by omega) (by omega) dL_law_536 ?_
  have hPc := hP.sub (ws' := (w1 cI cZ bd (sc, st, en, du, th, yk, yv, yr, yt, yl, yb, yp, yg))) [9, 10, 11, 12, 13, 14, 15, 16, 17] rfl
  refine vp_callSi (W.runV (As := [.int (xs (3 * i + 1))]) (rest := [.int r0]) ⟨hx, hb, hml, hown, hts⟩ (c1_latest l dC dI cI cZ bd sc st en du th yk yv yr yt yl yb yp yg (xs (3 * i + 1)) (by omega) (by omega)) (cwV 1 hts gL_law_X1_latest rfl rfl rfl (by decide +kernel) ⟨Nat.le_of_ble_eq_true rfl, Nat.le_of_ble_eq_true rfl⟩) ⟨bl_r, va_recv hKc hPc (ci := 1) (q0 := 0) rfl rfl, fun U hU hW => ⟨rfl, by rw [hU]; exact hPc, va_K.moved hW.alike hKc⟩⟩ rfl rfl hl.1 rfl (lv_room (Nat.le_of_ble_eq_true rfl)) dL_law_537 ⟨by show 20 + i + 0 ≤ 1045; omega, by show 30400 + 6 * i + 0 ≤ 38468; omega⟩) (fun r1 q1 => ?_)
  have heq : r0 = r1 := latest_eq hrr hy q0 q1
  refine lv_icmp_eq (tgt := 622) hx hb dL_law_540 (by decide) (fun c1 => ?_) (fun c1 => ?_)
  · refine W.widen (k := 20 + (i + 1)) (n := 30400 + 6 * (i + 1)) (by omega) (by omega) ?_
    exact hk _ _ _ _ _ ls (rel_up hR) hP hD hS (lv_sub hl [0, 1, 2, 3, 4] rfl)
  · exact absurd (heq) c1
set_option maxHeartbeats 4000000 in
set_option maxRecDepth 100000 in
theorem law_c15 (hC : lwC p l s m c dC dI cI cZ cJ b L xs sa sb) {i : Nat} (hi : 3 * i + 3 ≤ L) (hk : lwG p l e s m below meth c dC dI cI cZ cJ ad bd qo b 622 (i + 1) i) {n sc st en du th : Nat} {fo fk fv fr fc fb fp ft yk yv yr yt yl yb yp yg : Nat → Int32} {fl : Nat → Int64} {H : Heap} {locs : List Loc} {ls : Array Slot} (hR : Rel i (n, sc, st, en, du, fo, fk, fv, fr, fc, fb, fp, ft) (sc, st, en, du, th, yk, yv, yr, yt, yl, yb, yp, yg)) (hP : va_P (dC, dI) vwCl (wL cI cZ cJ ad bd qo (n, sc, st, en, du, fo, fk, fv, fr, fc, fb, fp, ft) (sc, st, en, du, th, yk, yv, yr, yt, yl, yb, yp, yg) fl) H) (hD : va_D (fun q : Nat => s.heap.size ≤ q) (wL cI cZ cJ ad bd qo (n, sc, st, en, du, fo, fk, fv, fr, fc, fb, fp, ft) (sc, st, en, du, th, yk, yv, yr, yt, yl, yb, yp, yg) fl)) (hS : va_S (fun q : Nat => s.heap.size ≤ q) s.heap H locs) (hl : lv_has ls 7 [(0, .ref b), (1, .ref (ad 0)), (2, .ref (bd 0)), (3, .ref qo), (4, .int (nI (3 * i)))]) : W p l e room_1 s m #[Value.ref b] below meth c H locs (20 + i) (30400 + 6 * i) (lw_Z below #[Value.ref b] s) (F0 m 545 ls []) := by
  obtain ⟨hx, hb, hml, hown, hts, hX, hbl, hK, hT, hlt, hL⟩ := hC
  have hA : ∀ q : Nat, s.heap.size ≤ q → (fun q : Nat => s.heap.size ≤ q) q := fun _ h => h
  have hbA : ¬ (fun q : Nat => s.heap.size ≤ q) b := Nat.not_le.mpr hbl
  obtain ⟨-, -, -, -, hn, hy, ⟨Bs, hbs⟩, ⟨Ps, hps⟩, O, K, hrr⟩ := id hR
  obtain ⟨n1, n2, n3, n4, n5, n6⟩ := id hn
  have hKc := hK.sub (tys' := kt cI cZ) [0, 1] rfl
  refine lv_aload_n hx hb dL_law_545 rfl (lv_at hl 1 rfl) ?_
  have hPc := hP.sub (ws' := (w0 cI cZ ad (n, sc, st, en, du, fo, fk, fv, fr, fc, fb, fp, ft))) [0, 1, 2, 3, 4, 5, 6, 7, 8] rfl
  refine vp_callSi (W.runV (As := []) (rest := []) ⟨hx, hb, hml, hown, hts⟩ (c0_segments l dC dI cI cZ ad n sc st en du fo fk fv fr fc fb fp ft  ) (cwV 0 hts gL_law_X0_segments rfl rfl rfl (by decide +kernel) ⟨Nat.le_of_ble_eq_true rfl, Nat.le_of_ble_eq_true rfl⟩) ⟨bl_r, va_recv hKc hPc (ci := 0) (q0 := 0) rfl rfl, fun U hU hW => ⟨rfl, by rw [hU]; exact hPc, va_K.moved hW.alike hKc⟩⟩ rfl rfl hl.1 rfl (lv_room (Nat.le_of_ble_eq_true rfl)) dL_law_546 ⟨by show 20 + i + 0 ≤ 1045; omega, by show 30400 + 6 * i + 0 ≤ 38468; omega⟩) (fun r0 q0 => ?_)
  refine lv_aload_n hx hb dL_law_549 rfl (lv_at hl 2 rfl) ?_
  have hPc := hP.sub (ws' := (w1 cI cZ bd (sc, st, en, du, th, yk, yv, yr, yt, yl, yb, yp, yg))) [9, 10, 11, 12, 13, 14, 15, 16, 17] rfl
  refine vp_callSi (W.runV (As := []) (rest := [.int r0]) ⟨hx, hb, hml, hown, hts⟩ (c1_segments l dC dI cI cZ bd sc st en du th yk yv yr yt yl yb yp yg  ) (cwV 0 hts gL_law_X1_segments rfl rfl rfl (by decide +kernel) ⟨Nat.le_of_ble_eq_true rfl, Nat.le_of_ble_eq_true rfl⟩) ⟨bl_r, va_recv hKc hPc (ci := 1) (q0 := 0) rfl rfl, fun U hU hW => ⟨rfl, by rw [hU]; exact hPc, va_K.moved hW.alike hKc⟩⟩ rfl rfl hl.1 rfl (lv_room (Nat.le_of_ble_eq_true rfl)) dL_law_550 ⟨by show 20 + i + 0 ≤ 1045; omega, by show 30400 + 6 * i + 0 ≤ 38468; omega⟩) (fun r1 q1 => ?_)
  have heq : r0 = r1 := q0.trans q1.symm
  refine lv_icmp_eq (tgt := 622) hx hb dL_law_553 (by decide) (fun c1 => ?_) (fun c1 => ?_)
  · refine W.widen (k := 20 + (i + 1)) (n := 30400 + 6 * (i + 1)) (by omega) (by omega) ?_
    exact hk _ _ _ _ _ ls (rel_up hR) hP hD hS (lv_sub hl [0, 1, 2, 3, 4] rfl)
  · exact absurd (heq) c1
set_option maxHeartbeats 4000000 in
set_option maxRecDepth 100000 in
theorem law_c17 (hC : lwC p l s m c dC dI cI cZ cJ b L xs sa sb) {i : Nat} (hi : 3 * i + 3 ≤ L) (hk : lwG p l e s m below meth c dC dI cI cZ cJ ad bd qo b 622 (i + 1) i) {n sc st en du th : Nat} {fo fk fv fr fc fb fp ft yk yv yr yt yl yb yp yg : Nat → Int32} {fl : Nat → Int64} {H : Heap} {locs : List Loc} {ls : Array Slot} (hR : Rel i (n, sc, st, en, du, fo, fk, fv, fr, fc, fb, fp, ft) (sc, st, en, du, th, yk, yv, yr, yt, yl, yb, yp, yg)) (hP : va_P (dC, dI) vwCl (wL cI cZ cJ ad bd qo (n, sc, st, en, du, fo, fk, fv, fr, fc, fb, fp, ft) (sc, st, en, du, th, yk, yv, yr, yt, yl, yb, yp, yg) fl) H) (hD : va_D (fun q : Nat => s.heap.size ≤ q) (wL cI cZ cJ ad bd qo (n, sc, st, en, du, fo, fk, fv, fr, fc, fb, fp, ft) (sc, st, en, du, th, yk, yv, yr, yt, yl, yb, yp, yg) fl)) (hS : va_S (fun q : Nat => s.heap.size ≤ q) s.heap H locs) (hl : lv_has ls 7 [(0, .ref b), (1, .ref (ad 0)), (2, .ref (bd 0)), (3, .ref qo), (4, .int (nI (3 * i)))]) : W p l e room_1 s m #[Value.ref b] below meth c H locs (20 + i) (30400 + 6 * i) (lw_Z below #[Value.ref b] s) (F0 m 583 ls []) := by
  obtain ⟨hx, hb, hml, hown, hts, hX, hbl, hK, hT, hlt, hL⟩ := hC
  have hA : ∀ q : Nat, s.heap.size ≤ q → (fun q : Nat => s.heap.size ≤ q) q := fun _ h => h
  have hbA : ¬ (fun q : Nat => s.heap.size ≤ q) b := Nat.not_le.mpr hbl
  obtain ⟨-, -, -, -, hn, hy, ⟨Bs, hbs⟩, ⟨Ps, hps⟩, O, K, hrr⟩ := id hR
  obtain ⟨n1, n2, n3, n4, n5, n6⟩ := id hn
  have hKc := hK.sub (tys' := kt cI cZ) [0, 1] rfl
  refine lv_aload_n hx hb dL_law_583 rfl (lv_at hl 1 rfl) ?_
  have hPc := hP.sub (ws' := (w0 cI cZ ad (n, sc, st, en, du, fo, fk, fv, fr, fc, fb, fp, ft))) [0, 1, 2, 3, 4, 5, 6, 7, 8] rfl
  refine vp_callSi (W.runV (As := []) (rest := []) ⟨hx, hb, hml, hown, hts⟩ (c0_start l dC dI cI cZ ad n sc st en du fo fk fv fr fc fb fp ft  ) (cwV 0 hts gL_law_X0_start rfl rfl rfl (by decide +kernel) ⟨Nat.le_of_ble_eq_true rfl, Nat.le_of_ble_eq_true rfl⟩) ⟨bl_r, va_recv hKc hPc (ci := 0) (q0 := 0) rfl rfl, fun U hU hW => ⟨rfl, by rw [hU]; exact hPc, va_K.moved hW.alike hKc⟩⟩ rfl rfl hl.1 rfl (lv_room (Nat.le_of_ble_eq_true rfl)) dL_law_584 ⟨by show 20 + i + 0 ≤ 1045; omega, by show 30400 + 6 * i + 0 ≤ 38468; omega⟩) (fun r0 q0 => ?_)
  refine lv_aload_n hx hb dL_law_587 rfl (lv_at hl 2 rfl) ?_
  have hPc := hP.sub (ws' := (w1 cI cZ bd (sc, st, en, du, th, yk, yv, yr, yt, yl, yb, yp, yg))) [9, 10, 11, 12, 13, 14, 15, 16, 17] rfl
  refine vp_callSi (W.runV (As := []) (rest := [.int r0]) ⟨hx, hb, hml, hown, hts⟩ (c1_start l dC dI cI cZ bd sc st en du th yk yv yr yt yl yb yp yg  ) (cwV 0 hts gL_law_X1_start rfl rfl rfl (by decide +kernel) ⟨Nat.le_of_ble_eq_true rfl, Nat.le_of_ble_eq_true rfl⟩) ⟨bl_r, va_recv hKc hPc (ci := 1) (q0 := 0) rfl rfl, fun U hU hW => ⟨rfl, by rw [hU]; exact hPc, va_K.moved hW.alike hKc⟩⟩ rfl rfl hl.1 rfl (lv_room (Nat.le_of_ble_eq_true rfl)) dL_law_588 ⟨by show 20 + i + 0 ≤ 1045; omega, by show 30400 + 6 * i + 0 ≤ 38468; omega⟩) (fun r1 q1 => ?_)
  have heq : r0 = r1 := q0.trans q1.symm
  refine lv_icmp_eq (tgt := 622) hx hb dL_law_591 (by decide) (fun c1 => ?_) (fun c1 => ?_)
  · refine W.widen (k := 20 + (i + 1)) (n := 30400 + 6 * (i + 1)) (by omega) (by omega) ?_
    exact hk _ _ _ _ _ ls (rel_up hR) hP hD hS (lv_sub hl [0, 1, 2, 3, 4] rfl)
  · exact absurd (heq) c1
set_option maxHeartbeats 4000000 in
set_option maxRecDepth 100000 in
theorem law_c18 (hC : lwC p l s m c dC dI cI cZ cJ b L xs sa sb) {i : Nat} (hi : 3 * i + 3 ≤ L) (hk : lwG p l e s m below meth c dC dI cI cZ cJ ad bd qo b 622 (i + 1) i) {n sc st en du th : Nat} {fo fk fv fr fc fb fp ft yk yv yr yt yl yb yp yg : Nat → Int32} {fl : Nat → Int64} {H : Heap} {locs : List Loc} {ls : Array Slot} (hR : Rel i (n, sc, st, en, du, fo, fk, fv, fr, fc, fb, fp, ft) (sc, st, en, du, th, yk, yv, yr, yt, yl, yb, yp, yg)) (hP : va_P (dC, dI) vwCl (wL cI cZ cJ ad bd qo (n, sc, st, en, du, fo, fk, fv, fr, fc, fb, fp, ft) (sc, st, en, du, th, yk, yv, yr, yt, yl, yb, yp, yg) fl) H) (hD : va_D (fun q : Nat => s.heap.size ≤ q) (wL cI cZ cJ ad bd qo (n, sc, st, en, du, fo, fk, fv, fr, fc, fb, fp, ft) (sc, st, en, du, th, yk, yv, yr, yt, yl, yb, yp, yg) fl)) (hS : va_S (fun q : Nat => s.heap.size ≤ q) s.heap H locs) (hl : lv_has ls 7 [(0, .ref b), (1, .ref (ad 0)), (2, .ref (bd 0)), (3, .ref qo), (4, .int (nI (3 * i)))]) : W p l e room_1 s m #[Value.ref b] below meth c H locs (20 + i) (30400 + 6 * i) (lw_Z below #[Value.ref b] s) (F0 m 596 ls []) := by
  obtain ⟨hx, hb, hml, hown, hts, hX, hbl, hK, hT, hlt, hL⟩ := hC
  have hA : ∀ q : Nat, s.heap.size ≤ q → (fun q : Nat => s.heap.size ≤ q) q := fun _ h => h
  have hbA : ¬ (fun q : Nat => s.heap.size ≤ q) b := Nat.not_le.mpr hbl
  obtain ⟨-, -, -, -, hn, hy, ⟨Bs, hbs⟩, ⟨Ps, hps⟩, O, K, hrr⟩ := id hR
  obtain ⟨n1, n2, n3, n4, n5, n6⟩ := id hn
  have hKc := hK.sub (tys' := kt cI cZ) [0, 1] rfl
  refine lv_aload_n hx hb dL_law_596 rfl (lv_at hl 1 rfl) ?_
  have hPc := hP.sub (ws' := (w0 cI cZ ad (n, sc, st, en, du, fo, fk, fv, fr, fc, fb, fp, ft))) [0, 1, 2, 3, 4, 5, 6, 7, 8] rfl
  refine vp_callSi (W.runV (As := []) (rest := []) ⟨hx, hb, hml, hown, hts⟩ (c0_end l dC dI cI cZ ad n sc st en du fo fk fv fr fc fb fp ft  ) (cwV 0 hts gL_law_X0_end rfl rfl rfl (by decide +kernel) ⟨Nat.le_of_ble_eq_true rfl, Nat.le_of_ble_eq_true rfl⟩) ⟨bl_r, va_recv hKc hPc (ci := 0) (q0 := 0) rfl rfl, fun U hU hW => ⟨rfl, by rw [hU]; exact hPc, va_K.moved hW.alike hKc⟩⟩ rfl rfl hl.1 rfl (lv_room (Nat.le_of_ble_eq_true rfl)) dL_law_597 ⟨by show 20 + i + 0 ≤ 1045; omega, by show 30400 + 6 * i + 0 ≤ 38468; omega⟩) (fun r0 q0 => ?_)
  refine lv_aload_n hx hb dL_law_600 rfl (lv_at hl 2 rfl) ?_
  have hPc := hP.sub (ws' := (w1 cI cZ bd (sc, st, en, du, th, yk, yv, yr, yt, yl, yb, yp, yg))) [9, 10, 11, 12, 13, 14, 15, 16, 17] rfl
  refine vp_callSi (W.runV (As := []) (rest := [.int r0]) ⟨hx, hb, hml, hown, hts⟩ (c1_end l dC dI cI cZ bd sc st en du th yk yv yr yt yl yb yp yg  ) (cwV 0 hts gL_law_X1_end rfl rfl rfl (by decide +kernel) ⟨Nat.le_of_ble_eq_true rfl, Nat.le_of_ble_eq_true rfl⟩) ⟨bl_r, va_recv hKc hPc (ci := 1) (q0 := 0) rfl rfl, fun U hU hW => ⟨rfl, by rw [hU]; exact hPc, va_K.moved hW.alike hKc⟩⟩ rfl rfl hl.1 rfl (lv_room (Nat.le_of_ble_eq_true rfl)) dL_law_601 ⟨by show 20 + i + 0 ≤ 1045; omega, by show 30400 + 6 * i + 0 ≤ 38468; omega⟩) (fun r1 q1 => ?_)
  have heq : r0 = r1 := q0.trans q1.symm
  refine lv_icmp_eq (tgt := 622) hx hb dL_law_604 (by decide) (fun c1 => ?_) (fun c1 => ?_)
  · refine W.widen (k := 20 + (i + 1)) (n := 30400 + 6 * (i + 1)) (by omega) (by omega) ?_
    exact hk _ _ _ _ _ ls (rel_up hR) hP hD hS (lv_sub hl [0, 1, 2, 3, 4] rfl)
  · exact absurd (heq) c1
set_option maxHeartbeats 4000000 in
set_option maxRecDepth 100000 in
theorem law_c19 (hC : lwC p l s m c dC dI cI cZ cJ b L xs sa sb) {i : Nat} (hi : 3 * i + 3 ≤ L) (hk : lwG p l e s m below meth c dC dI cI cZ cJ ad bd qo b 622 (i + 1) i) {n sc st en du th : Nat} {fo fk fv fr fc fb fp ft yk yv yr yt yl yb yp yg : Nat → Int32} {fl : Nat → Int64} {H : Heap} {locs : List Loc} {ls : Array Slot} (hR : Rel i (n, sc, st, en, du, fo, fk, fv, fr, fc, fb, fp, ft) (sc, st, en, du, th, yk, yv, yr, yt, yl, yb, yp, yg)) (hP : va_P (dC, dI) vwCl (wL cI cZ cJ ad bd qo (n, sc, st, en, du, fo, fk, fv, fr, fc, fb, fp, ft) (sc, st, en, du, th, yk, yv, yr, yt, yl, yb, yp, yg) fl) H) (hD : va_D (fun q : Nat => s.heap.size ≤ q) (wL cI cZ cJ ad bd qo (n, sc, st, en, du, fo, fk, fv, fr, fc, fb, fp, ft) (sc, st, en, du, th, yk, yv, yr, yt, yl, yb, yp, yg) fl)) (hS : va_S (fun q : Nat => s.heap.size ≤ q) s.heap H locs) (hl : lv_has ls 7 [(0, .ref b), (1, .ref (ad 0)), (2, .ref (bd 0)), (3, .ref qo), (4, .int (nI (3 * i)))]) : W p l e room_1 s m #[Value.ref b] below meth c H locs (20 + i) (30400 + 6 * i) (lw_Z below #[Value.ref b] s) (F0 m 609 ls []) := by
  obtain ⟨hx, hb, hml, hown, hts, hX, hbl, hK, hT, hlt, hL⟩ := hC
  have hA : ∀ q : Nat, s.heap.size ≤ q → (fun q : Nat => s.heap.size ≤ q) q := fun _ h => h
  have hbA : ¬ (fun q : Nat => s.heap.size ≤ q) b := Nat.not_le.mpr hbl
  obtain ⟨-, -, -, -, hn, hy, ⟨Bs, hbs⟩, ⟨Ps, hps⟩, O, K, hrr⟩ := id hR
  obtain ⟨n1, n2, n3, n4, n5, n6⟩ := id hn
  have hKc := hK.sub (tys' := kt cI cZ) [0, 1] rfl
  refine lv_aload_n hx hb dL_law_609 rfl (lv_at hl 1 rfl) ?_
  have hPc := hP.sub (ws' := (w0 cI cZ ad (n, sc, st, en, du, fo, fk, fv, fr, fc, fb, fp, ft))) [0, 1, 2, 3, 4, 5, 6, 7, 8] rfl
  refine vp_callSi (W.runV (As := []) (rest := []) ⟨hx, hb, hml, hown, hts⟩ (c0_durable l dC dI cI cZ ad n sc st en du fo fk fv fr fc fb fp ft  ) (cwV 0 hts gL_law_X0_durable rfl rfl rfl (by decide +kernel) ⟨Nat.le_of_ble_eq_true rfl, Nat.le_of_ble_eq_true rfl⟩) ⟨bl_r, va_recv hKc hPc (ci := 0) (q0 := 0) rfl rfl, fun U hU hW => ⟨rfl, by rw [hU]; exact hPc, va_K.moved hW.alike hKc⟩⟩ rfl rfl hl.1 rfl (lv_room (Nat.le_of_ble_eq_true rfl)) dL_law_610 ⟨by show 20 + i + 0 ≤ 1045; omega, by show 30400 + 6 * i + 0 ≤ 38468; omega⟩) (fun r0 q0 => ?_)
  refine lv_aload_n hx hb dL_law_613 rfl (lv_at hl 2 rfl) ?_
  have hPc := hP.sub (ws' := (w1 cI cZ bd (sc, st, en, du, th, yk, yv, yr, yt, yl, yb, yp, yg))) [9, 10, 11, 12, 13, 14, 15, 16, 17] rfl
  refine vp_callSi (W.runV (As := []) (rest := [.int r0]) ⟨hx, hb, hml, hown, hts⟩ (c1_durable l dC dI cI cZ bd sc st en du th yk yv yr yt yl yb yp yg  ) (cwV 0 hts gL_law_X1_durable rfl rfl rfl (by decide +kernel) ⟨Nat.le_of_ble_eq_true rfl, Nat.le_of_ble_eq_true rfl⟩) ⟨bl_r, va_recv hKc hPc (ci := 1) (q0 := 0) rfl rfl, fun U hU hW => ⟨rfl, by rw [hU]; exact hPc, va_K.moved hW.alike hKc⟩⟩ rfl rfl hl.1 rfl (lv_room (Nat.le_of_ble_eq_true rfl)) dL_law_614 ⟨by show 20 + i + 0 ≤ 1045; omega, by show 30400 + 6 * i + 0 ≤ 38468; omega⟩) (fun r1 q1 => ?_)
  have heq : r0 = r1 := q0.trans q1.symm
  refine lv_icmp_eq (tgt := 622) hx hb dL_law_617 (by decide) (fun c1 => ?_) (fun c1 => ?_)
  · refine W.widen (k := 20 + (i + 1)) (n := 30400 + 6 * (i + 1)) (by omega) (by omega) ?_
    exact hk _ _ _ _ _ ls (rel_up hR) hP hD hS (lv_sub hl [0, 1, 2, 3, 4] rfl)
  · exact absurd (heq) c1
set_option maxHeartbeats 4000000 in
set_option maxRecDepth 100000 in
theorem law_c16 (hC : lwC p l s m c dC dI cI cZ cJ b L xs sa sb) {i : Nat} (hi : 3 * i + 3 ≤ L) (hk : lwG p l e s m below meth c dC dI cI cZ cJ ad bd qo b 622 (i + 1) i) {n sc st en du th : Nat} {fo fk fv fr fc fb fp ft yk yv yr yt yl yb yp yg : Nat → Int32} {fl : Nat → Int64} {H : Heap} {locs : List Loc} {ls : Array Slot} (hR : Rel i (n, sc, st, en, du, fo, fk, fv, fr, fc, fb, fp, ft) (sc, st, en, du, th, yk, yv, yr, yt, yl, yb, yp, yg)) (hP : va_P (dC, dI) vwCl (wL cI cZ cJ ad bd qo (n, sc, st, en, du, fo, fk, fv, fr, fc, fb, fp, ft) (sc, st, en, du, th, yk, yv, yr, yt, yl, yb, yp, yg) fl) H) (hD : va_D (fun q : Nat => s.heap.size ≤ q) (wL cI cZ cJ ad bd qo (n, sc, st, en, du, fo, fk, fv, fr, fc, fb, fp, ft) (sc, st, en, du, th, yk, yv, yr, yt, yl, yb, yp, yg) fl)) (hS : va_S (fun q : Nat => s.heap.size ≤ q) s.heap H locs) (hl : lv_has ls 7 [(0, .ref b), (1, .ref (ad 0)), (2, .ref (bd 0)), (3, .ref qo), (4, .int (nI (3 * i)))]) : W p l e room_1 s m #[Value.ref b] below meth c H locs (20 + i) (30400 + 6 * i) (lw_Z below #[Value.ref b] s) (F0 m 558 ls []) := by
  obtain ⟨hx, hb, hml, hown, hts, hX, hbl, hK, hT, hlt, hL⟩ := hC
  have hA : ∀ q : Nat, s.heap.size ≤ q → (fun q : Nat => s.heap.size ≤ q) q := fun _ h => h
  have hbA : ¬ (fun q : Nat => s.heap.size ≤ q) b := Nat.not_le.mpr hbl
  obtain ⟨-, -, -, -, hn, hy, ⟨Bs, hbs⟩, ⟨Ps, hps⟩, O, K, hrr⟩ := id hR
  obtain ⟨n1, n2, n3, n4, n5, n6⟩ := id hn
  have hKc := hK.sub (tys' := kt cI cZ) [0, 1] rfl
  refine lv_aload_n hx hb dL_law_558 rfl (lv_at hl 1 rfl) ?_
  refine lv_aload_n hx hb dL_law_559 rfl (lv_at hl 0 rfl) ?_
  refine lv_iload hx hb dL_law_560 (lv_at hl 4 rfl) ?_
  refine lv_iconst (v := nI 1) hx hb dL_law_562 (by decide) ?_
  refine lv_iadd hx hb dL_law_563 ?_
  refine qa_top (nI_add (3 * i) 1) ?_
  refine qa_sld (i := 3 * i + 1) hx hb hX hbl hbA hS (by omega) (by omega) dL_law_564 ?_
  have hPc := hP.sub (ws' := (w0 cI cZ ad (n, sc, st, en, du, fo, fk, fv, fr, fc, fb, fp, ft))) [0, 1, 2, 3, 4, 5, 6, 7, 8] rfl
  refine vp_callSi (W.runV (As := [.int (xs (3 * i + 1))]) (rest := []) ⟨hx, hb, hml, hown, hts⟩ (c0_base l dC dI cI cZ ad n sc st en du fo fk fv fr fc fb fp ft (xs (3 * i + 1)) (by omega)) (cwV 1 hts gL_law_X0_base rfl rfl rfl (by decide +kernel) ⟨Nat.le_of_ble_eq_true rfl, Nat.le_of_ble_eq_true rfl⟩) ⟨bl_r, va_recv hKc hPc (ci := 0) (q0 := 0) rfl rfl, fun U hU hW => ⟨rfl, by rw [hU]; exact hPc, va_K.moved hW.alike hKc⟩⟩ rfl rfl hl.1 rfl (lv_room (Nat.le_of_ble_eq_true rfl)) dL_law_565 ⟨by show 20 + i + 0 ≤ 1045; omega, by show 30400 + 6 * i + 0 ≤ 38468; omega⟩) (fun r0 q0 => ?_)
  refine lv_aload_n hx hb dL_law_568 rfl (lv_at hl 2 rfl) ?_
  refine lv_aload_n hx hb dL_law_569 rfl (lv_at hl 0 rfl) ?_
  refine lv_iload hx hb dL_law_570 (lv_at hl 4 rfl) ?_
  refine lv_iconst (v := nI 1) hx hb dL_law_572 (by decide) ?_
  refine lv_iadd hx hb dL_law_573 ?_
  refine qa_top (nI_add (3 * i) 1) ?_
  refine qa_sld (i := 3 * i + 1) hx hb hX hbl hbA hS (by omega) (by omega) dL_law_574 ?_
  have hPc := hP.sub (ws' := (w1 cI cZ bd (sc, st, en, du, th, yk, yv, yr, yt, yl, yb, yp, yg))) [9, 10, 11, 12, 13, 14, 15, 16, 17] rfl
  refine vp_callSi (W.runV (As := [.int (xs (3 * i + 1))]) (rest := [.int r0]) ⟨hx, hb, hml, hown, hts⟩ (c1_base l dC dI cI cZ bd sc st en du th yk yv yr yt yl yb yp yg (xs (3 * i + 1)) (by omega)) (cwV 1 hts gL_law_X1_base rfl rfl rfl (by decide +kernel) ⟨Nat.le_of_ble_eq_true rfl, Nat.le_of_ble_eq_true rfl⟩) ⟨bl_r, va_recv hKc hPc (ci := 1) (q0 := 0) rfl rfl, fun U hU hW => ⟨rfl, by rw [hU]; exact hPc, va_K.moved hW.alike hKc⟩⟩ rfl rfl hl.1 rfl (lv_room (Nat.le_of_ble_eq_true rfl)) dL_law_575 ⟨by show 20 + i + 0 ≤ 1045; omega, by show 30400 + 6 * i + 0 ≤ 38468; omega⟩) (fun r1 q1 => ?_)
  have heq : r0 = r1 := base_eq hbs (by omega) q0 q1
  refine lv_icmp_eq (tgt := 622) hx hb dL_law_578 (by decide) (fun c1 => ?_) (fun c1 => ?_)
  · refine W.widen (k := 20 + (i + 1)) (n := 30400 + 6 * (i + 1)) (by omega) (by omega) ?_
    exact hk _ _ _ _ _ ls (rel_up hR) hP hD hS (lv_sub hl [0, 1, 2, 3, 4] rfl)
  · exact absurd (heq) c1
set_option maxHeartbeats 4000000 in
set_option maxRecDepth 100000 in
theorem law_c7 (hC : lwC p l s m c dC dI cI cZ cJ b L xs sa sb) {i : Nat} (hi : 3 * i + 3 ≤ L) (hk : lwG p l e s m below meth c dC dI cI cZ cJ ad bd qo b 622 (i + 1) i) {n sc st en du th : Nat} {fo fk fv fr fc fb fp ft yk yv yr yt yl yb yp yg : Nat → Int32} {fl : Nat → Int64} {H : Heap} {locs : List Loc} {ls : Array Slot} (hR : Rel i (n, sc, st, en, du, fo, fk, fv, fr, fc, fb, fp, ft) (sc, st, en, du, th, yk, yv, yr, yt, yl, yb, yp, yg)) (hP : va_P (dC, dI) vwCl (wL cI cZ cJ ad bd qo (n, sc, st, en, du, fo, fk, fv, fr, fc, fb, fp, ft) (sc, st, en, du, th, yk, yv, yr, yt, yl, yb, yp, yg) fl) H) (hD : va_D (fun q : Nat => s.heap.size ≤ q) (wL cI cZ cJ ad bd qo (n, sc, st, en, du, fo, fk, fv, fr, fc, fb, fp, ft) (sc, st, en, du, th, yk, yv, yr, yt, yl, yb, yp, yg) fl)) (hS : va_S (fun q : Nat => s.heap.size ≤ q) s.heap H locs) (hl : lv_has ls 7 [(0, .ref b), (1, .ref (ad 0)), (2, .ref (bd 0)), (3, .ref qo), (4, .int (nI (3 * i)))]) : W p l e room_1 s m #[Value.ref b] below meth c H locs (20 + i) (30400 + 6 * i) (lw_Z below #[Value.ref b] s) (F0 m 271 ls []) := by
  obtain ⟨hx, hb, hml, hown, hts, hX, hbl, hK, hT, hlt, hL⟩ := hC
  have hA : ∀ q : Nat, s.heap.size ≤ q → (fun q : Nat => s.heap.size ≤ q) q := fun _ h => h
  have hbA : ¬ (fun q : Nat => s.heap.size ≤ q) b := Nat.not_le.mpr hbl
  obtain ⟨-, -, -, -, hn, hy, ⟨Bs, hbs⟩, ⟨Ps, hps⟩, O, K, hrr⟩ := id hR
  obtain ⟨n1, n2, n3, n4, n5, n6⟩ := id hn
  have hKc := hK.sub (tys' := kt cI cZ) [0, 1] rfl
  refine lv_aload_n hx hb dL_law_271 rfl (lv_at hl 1 rfl) ?_
  refine lv_aload_n hx hb dL_law_272 rfl (lv_at hl 0 rfl) ?_
  refine lv_iload hx hb dL_law_273 (lv_at hl 4 rfl) ?_
  refine lv_iconst (v := nI 1) hx hb dL_law_275 (by decide) ?_
  refine lv_iadd hx hb dL_law_276 ?_
  refine qa_top (nI_add (3 * i) 1) ?_
  refine qa_sld (i := 3 * i + 1) hx hb hX hbl hbA hS (by omega) (by omega) dL_law_277 ?_
  refine lv_aload_n hx hb dL_law_278 rfl (lv_at hl 3 rfl) ?_
  have hPc := hP.sub (ws' := (wlo cI cZ cJ ad qo (n, sc, st, en, du, fo, fk, fv, fr, fc, fb, fp, ft) fl)) [0, 1, 2, 3, 4, 5, 6, 7, 8, 18] rfl
  have hDc := hD.sub (ws' := (wlo cI cZ cJ ad qo (n, sc, st, en, du, fo, fk, fv, fr, fc, fb, fp, ft) fl)) [0, 1, 2, 3, 4, 5, 6, 7, 8, 18] (by decide) rfl
  have hFc := va_free (wc := (wlo cI cZ cJ ad qo (n, sc, st, en, du, fo, fk, fv, fr, fc, fb, fp, ft) fl)) hD hS hA [0, 1, 2, 3, 4, 5, 6, 7, 8, 18] rfl
  refine va_calli (vx_runSW (As := [.ref (ad 0), .int (xs (3 * i + 1)), .ref qo]) (rest := []) ⟨hx, hb, hml, hown, hts⟩ (kL_value l hlt dC dI cI cZ cJ ad qo H.size sa sb n sc st en du fo fk fv fr fc fb fp ft fl (xs (3 * i + 1)) n6) (vx_cwSW 3 hts gL_law_L_value rfl rfl rfl (by decide +kernel) ⟨Nat.le_of_ble_eq_true rfl, Nat.le_of_ble_eq_true rfl⟩) ⟨bl_l, fun U hU hW => ⟨rfl, by rw [hU], by rw [hU]; exact hPc, va_K.moved hW.alike hK, hDc.weaken (fun _ _ _ _ => trivial), tp_go hT hW (fun a h1 h2 => by rw [hU]; exact hS.2.1 a h1 h2) hFc⟩⟩ rfl rfl hl.1 rfl (lv_room (Nat.le_of_ble_eq_true rfl)) dL_law_279 ⟨by show 20 + i + 1 ≤ 1045; omega, by show 30400 + 6 * i + 6 ≤ 38468; omega⟩) hS (fun q _ h => hFc q h) hFc (fun r0 u9 t H1 locs ht hvm q0 hB hz1 hk1 hS => ?_)
  obtain ⟨u9, fl2⟩ := u9
  obtain ⟨hP1, hK1, hD1⟩ := hB
  rw [ht] at hP1
  obtain ⟨q00, q0⟩ := q0
  have q00 : u9 = (n, sc, st, en, du, fo, fk, fv, fr, fc, fb, fp, ft) := q00
  subst q00
  obtain ⟨hP, hD⟩ := va_join (wr := (w1 cI cZ bd (sc, st, en, du, th, yk, yv, yr, yt, yl, yb, yp, yg))) (w1 := (wlo cI cZ cJ ad qo (n, sc, st, en, du, fo, fk, fv, fr, fc, fb, fp, ft) fl2)) hP hD [0, 1, 2, 3, 4, 5, 6, 7, 8, 18] [9, 10, 11, 12, 13, 14, 15, 16, 17] rfl rfl (by decide) (by decide) hk1 hFc hP1 hD1
  have hP := hP.sub (ws' := (wL cI cZ cJ ad bd qo (n, sc, st, en, du, fo, fk, fv, fr, fc, fb, fp, ft) (sc, st, en, du, th, yk, yv, yr, yt, yl, yb, yp, yg) fl2)) [9, 10, 11, 12, 13, 14, 15, 16, 17, 0, 1, 2, 3, 4, 5, 6, 7, 8, 18] rfl
  have hD := hD.sub (ws' := (wL cI cZ cJ ad bd qo (n, sc, st, en, du, fo, fk, fv, fr, fc, fb, fp, ft) (sc, st, en, du, th, yk, yv, yr, yt, yl, yb, yp, yg) fl2)) [9, 10, 11, 12, 13, 14, 15, 16, 17, 0, 1, 2, 3, 4, 5, 6, 7, 8, 18] (by decide) rfl
  generalize H1 = H at hP hS ⊢
  refine lv_istore (lv' := [(5, .int r0), (0, .ref b), (1, .ref (ad 0)), (2, .ref (bd 0)), (3, .ref qo), (4, .int (nI (3 * i)))]) hx hb dL_law_282 hl (by decide) rfl (fun ls hl => ?_)
  refine lv_aload_n hx hb dL_law_284 rfl (lv_at hl 3 rfl) ?_
  refine lv_aload_n hx hb dL_law_285 rfl (lv_at hl 1 rfl) ?_
  refine lv_iload hx hb dL_law_286 (lv_at hl 5 rfl) ?_
  refine lv_iconst (v := nI 1) hx hb dL_law_288 (by decide) ?_
  refine lv_iadd hx hb dL_law_289 ?_
  refine qa_top (nI_add (3 * i) 1) ?_
  refine qa_sld (i := 3 * i + 1) hx hb hX hbl hbA hS (by omega) (by omega) dL_law_290 ?_
  have hPc := hP.sub (ws' := (w1 cI cZ bd (sc, st, en, du, th, yk, yv, yr, yt, yl, yb, yp, yg))) [9, 10, 11, 12, 13, 14, 15, 16, 17] rfl
  have hDc := hD.sub (ws' := (w1 cI cZ bd (sc, st, en, du, th, yk, yv, yr, yt, yl, yb, yp, yg))) [9, 10, 11, 12, 13, 14, 15, 16, 17] (by decide) rfl
  have hFc := va_free (wc := (w1 cI cZ bd (sc, st, en, du, th, yk, yv, yr, yt, yl, yb, yp, yg))) hD hS hA [9, 10, 11, 12, 13, 14, 15, 16, 17] rfl
  refine va_calli (va_runV (As := [.int (xs (3 * i + 1))]) (rest := []) ⟨hx, hb, hml, hown, hts⟩ (c1_value l dC dI cI cZ bd H.size sc st en du th yk yv yr yt yl yb yp yg (xs (3 * i + 1)) (by omega) (by omega)) (cwV 1 hts gL_law_X1_value rfl rfl rfl (by decide +kernel) ⟨Nat.le_of_ble_eq_true rfl, Nat.le_of_ble_eq_true rfl⟩) ⟨bl_w, va_recv hKc hPc (ci := 1) (q0 := 0) rfl rfl, fun U hU hW => ⟨rfl, by rw [hU], by rw [hU]; exact hPc, va_K.moved hW.alike hKc, hDc.weaken (fun _ _ _ _ => trivial)⟩⟩ rfl rfl hl.1 rfl (lv_room (Nat.le_of_ble_eq_true rfl)) dL_law_291 ⟨by show 20 + i + 1 + 0 ≤ 1045; omega, by show 30400 + 6 * i + 6 + 0 ≤ 38468; omega⟩) hS (fun q _ h => hFc q h) hFc (fun r1 v9 t H1 locs ht hvm q1 hB hz1 hk1 hS => ?_)
  obtain ⟨sg3, st3, en3, du3, th3, yk3, yv3, yr3, yt3, yl3, yb3, yp3, yg3⟩ := v9
  obtain ⟨hP1, hK1, hD1⟩ := hB
  rw [ht] at hP1
  obtain ⟨hP, hD⟩ := va_join (wr := (w0 cI cZ ad (n, sc, st, en, du, fo, fk, fv, fr, fc, fb, fp, ft) ++ [(qo, .inl (cJ, 1, .inr (.inl fl2)))])) (w1 := (w1 cI cZ bd (sg3, st3, en3, du3, th3, yk3, yv3, yr3, yt3, yl3, yb3, yp3, yg3))) hP hD [9, 10, 11, 12, 13, 14, 15, 16, 17] [0, 1, 2, 3, 4, 5, 6, 7, 8, 18] rfl rfl (by decide) (by decide) hk1 hFc hP1 hD1
  have hP := hP.sub (ws' := (wL cI cZ cJ ad bd qo (n, sc, st, en, du, fo, fk, fv, fr, fc, fb, fp, ft) (sg3, st3, en3, du3, th3, yk3, yv3, yr3, yt3, yl3, yb3, yp3, yg3) fl2)) [0, 1, 2, 3, 4, 5, 6, 7, 8, 10, 11, 12, 13, 14, 15, 16, 17, 18, 9] rfl
  have hD := hD.sub (ws' := (wL cI cZ cJ ad bd qo (n, sc, st, en, du, fo, fk, fv, fr, fc, fb, fp, ft) (sg3, st3, en3, du3, th3, yk3, yv3, yr3, yt3, yl3, yb3, yp3, yg3) fl2)) [0, 1, 2, 3, 4, 5, 6, 7, 8, 10, 11, 12, 13, 14, 15, 16, 17, 18, 9] (by decide) rfl
  generalize H1 = H at hP hS ⊢
  obtain ⟨z, hz3, hz4, hz5, hz6⟩ := vk_eq hR hrr (by omega) q0 q1
  cases hz4
  refine lv_istore (lv' := [(6, .int r1), (5, .int r0), (0, .ref b), (1, .ref (ad 0)), (2, .ref (bd 0)), (3, .ref qo), (4, .int (nI (3 * i)))]) hx hb dL_law_294 hl (by decide) rfl (fun ls hl => ?_)
  refine lv_aload_n hx hb dL_law_296 rfl (lv_at hl 4 rfl) ?_
  have hPc := hP.sub (ws' := (w1 cI cZ bd (sc, st, en, du, th3, yk, yv, yr, yt, yl, yb, yp, yg))) [9, 10, 11, 12, 13, 14, 15, 16, 17] rfl
  refine vp_callSi (W.runV (As := []) (rest := []) ⟨hx, hb, hml, hown, hts⟩ (c1_thrown l dC dI cI cZ bd sc st en du th3 yk yv yr yt yl yb yp yg  ) (cwV 0 hts gL_law_X1_thrown rfl rfl rfl (by decide +kernel) ⟨Nat.le_of_ble_eq_true rfl, Nat.le_of_ble_eq_true rfl⟩) ⟨bl_r, va_recv hKc hPc (ci := 1) (q0 := 0) rfl rfl, fun U hU hW => ⟨rfl, by rw [hU]; exact hPc, va_K.moved hW.alike hKc⟩⟩ rfl rfl hl.1 rfl (lv_room (Nat.le_of_ble_eq_true rfl)) dL_law_297 ⟨by show 20 + i + 1 + 0 ≤ 1045; omega, by show 30400 + 6 * i + 6 + 0 ≤ 38468; omega⟩) (fun rt qt => ?_)
  refine lv_iload hx hb dL_law_300 (lv_at hl 1 rfl) ?_
  refine lv_icmp_eq (tgt := 307) hx hb dL_law_302 (by decide) (fun c1 => ?_) (fun c1 => absurd (qt.trans hz5.symm) c1)
  refine lv_iload hx hb dL_law_307 (lv_at hl 1 rfl) ?_
  refine lv_if_ne (tgt := 324) hx hb dL_law_309 (by decide) (fun c2 => ?_) (fun c2 => ?_)
  · refine lv_goto (tgt := 622) hx hb dL_law_324 (by decide) ?_
    refine W.widen (k := 20 + (i + 1)) (n := 30400 + 6 * (i + 1)) (by omega) (by omega) ?_
    exact hk _ _ _ _ _ ls (rel_up hR) hP hD hS (lv_sub hl [2, 3, 4, 5, 6] rfl)
  · have hzz : th3 = 0 := by rw [hz5] at c2; exact nI_inj (by omega) (by omega) c2
    subst hzz
    obtain ⟨j, j1, ⟨rv, j2, j3⟩, j4⟩ := hz6 rfl
    have hre : rv = r1 := value_eq hrr j1 j3 j4
    refine lv_aload_n hx hb dL_law_312 rfl (lv_at hl 5 rfl) ?_
    refine lv_iconst (v := nI 0) hx hb dL_law_313 (by decide) ?_
    refine va_lald hx hb hK hP 18 2 rfl rfl (i := nI 0) (vp_in_nI (by omega) (by omega)) dL_law_314 ?_
    refine lv_iload hx hb dL_law_315 (lv_at hl 0 rfl) ?_
    refine lv_i2l (v := r1.toInt64) hx hb dL_law_317 rfl ?_
    refine W.lcmp hx hb dL_law_318 ?_
    refine lv_if_eq (tgt := 324) hx hb dL_law_319 (by decide) (fun c3 => ?_) (fun c3 => absurd (by rw [nI_clamp (by omega), show fl2 0 = rv.toInt64 from j2, hre]; exact lcmp_0 _) c3)
    refine lv_goto (tgt := 622) hx hb dL_law_324 (by decide) ?_
    refine W.widen (k := 20 + (i + 1)) (n := 30400 + 6 * (i + 1)) (by omega) (by omega) ?_
    exact hk _ _ _ _ _ ls (rel_up hR) hP hD hS (lv_sub hl [2, 3, 4, 5, 6] rfl)
set_option maxHeartbeats 4000000 in
set_option maxRecDepth 100000 in
theorem law_c8 (hC : lwC p l s m c dC dI cI cZ cJ b L xs sa sb) {i : Nat} (hi : 3 * i + 3 ≤ L) (hk : lwG p l e s m below meth c dC dI cI cZ cJ ad bd qo b 622 (i + 1) i) {n sc st en du th : Nat} {fo fk fv fr fc fb fp ft yk yv yr yt yl yb yp yg : Nat → Int32} {fl : Nat → Int64} {H : Heap} {locs : List Loc} {ls : Array Slot} (hR : Rel i (n, sc, st, en, du, fo, fk, fv, fr, fc, fb, fp, ft) (sc, st, en, du, th, yk, yv, yr, yt, yl, yb, yp, yg)) (hP : va_P (dC, dI) vwCl (wL cI cZ cJ ad bd qo (n, sc, st, en, du, fo, fk, fv, fr, fc, fb, fp, ft) (sc, st, en, du, th, yk, yv, yr, yt, yl, yb, yp, yg) fl) H) (hD : va_D (fun q : Nat => s.heap.size ≤ q) (wL cI cZ cJ ad bd qo (n, sc, st, en, du, fo, fk, fv, fr, fc, fb, fp, ft) (sc, st, en, du, th, yk, yv, yr, yt, yl, yb, yp, yg) fl)) (hS : va_S (fun q : Nat => s.heap.size ≤ q) s.heap H locs) (hl : lv_has ls 7 [(0, .ref b), (1, .ref (ad 0)), (2, .ref (bd 0)), (3, .ref qo), (4, .int (nI (3 * i)))]) : W p l e room_1 s m #[Value.ref b] below meth c H locs (20 + i) (30400 + 6 * i) (lw_Z below #[Value.ref b] s) (F0 m 327 ls []) := by
  obtain ⟨hx, hb, hml, hown, hts, hX, hbl, hK, hT, hlt, hL⟩ := hC
  have hA : ∀ q : Nat, s.heap.size ≤ q → (fun q : Nat => s.heap.size ≤ q) q := fun _ h => h
  have hbA : ¬ (fun q : Nat => s.heap.size ≤ q) b := Nat.not_le.mpr hbl
  obtain ⟨-, -, -, -, hn, hy, ⟨Bs, hbs⟩, ⟨Ps, hps⟩, O, K, hrr⟩ := id hR
  obtain ⟨n1, n2, n3, n4, n5, n6⟩ := id hn
  have hKc := hK.sub (tys' := kt cI cZ) [0, 1] rfl
  refine lv_aload_n hx hb dL_law_327 rfl (lv_at hl 1 rfl) ?_
  refine lv_aload_n hx hb dL_law_328 rfl (lv_at hl 0 rfl) ?_
  refine lv_iload hx hb dL_law_329 (lv_at hl 4 rfl) ?_
  refine lv_iconst (v := nI 1) hx hb dL_law_331 (by decide) ?_
  refine lv_iadd hx hb dL_law_332 ?_
  refine qa_top (nI_add (3 * i) 1) ?_
  refine qa_sld (i := 3 * i + 1) hx hb hX hbl hbA hS (by omega) (by omega) dL_law_333 ?_
  refine lv_aload_n hx hb dL_law_334 rfl (lv_at hl 3 rfl) ?_
  have hPc := hP.sub (ws' := (wlo cI cZ cJ ad qo (n, sc, st, en, du, fo, fk, fv, fr, fc, fb, fp, ft) fl)) [0, 1, 2, 3, 4, 5, 6, 7, 8, 18] rfl
  have hDc := hD.sub (ws' := (wlo cI cZ cJ ad qo (n, sc, st, en, du, fo, fk, fv, fr, fc, fb, fp, ft) fl)) [0, 1, 2, 3, 4, 5, 6, 7, 8, 18] (by decide) rfl
  have hFc := va_free (wc := (wlo cI cZ cJ ad qo (n, sc, st, en, du, fo, fk, fv, fr, fc, fb, fp, ft) fl)) hD hS hA [0, 1, 2, 3, 4, 5, 6, 7, 8, 18] rfl
  refine va_calli (vx_runSW (As := [.ref (ad 0), .int (xs (3 * i + 1)), .ref qo]) (rest := []) ⟨hx, hb, hml, hown, hts⟩ (kL_key l hlt dC dI cI cZ cJ ad qo H.size sa sb n sc st en du fo fk fv fr fc fb fp ft fl (xs (3 * i + 1)) n6) (vx_cwSW 3 hts gL_law_L_key rfl rfl rfl (by decide +kernel) ⟨Nat.le_of_ble_eq_true rfl, Nat.le_of_ble_eq_true rfl⟩) ⟨bl_l, fun U hU hW => ⟨rfl, by rw [hU], by rw [hU]; exact hPc, va_K.moved hW.alike hK, hDc.weaken (fun _ _ _ _ => trivial), tp_go hT hW (fun a h1 h2 => by rw [hU]; exact hS.2.1 a h1 h2) hFc⟩⟩ rfl rfl hl.1 rfl (lv_room (Nat.le_of_ble_eq_true rfl)) dL_law_335 ⟨by show 20 + i + 1 ≤ 1045; omega, by show 30400 + 6 * i + 6 ≤ 38468; omega⟩) hS (fun q _ h => hFc q h) hFc (fun r0 u9 t H1 locs ht hvm q0 hB hz1 hk1 hS => ?_)
  obtain ⟨u9, fl2⟩ := u9
  obtain ⟨hP1, hK1, hD1⟩ := hB
  rw [ht] at hP1
  obtain ⟨q00, q0⟩ := q0
  have q00 : u9 = (n, sc, st, en, du, fo, fk, fv, fr, fc, fb, fp, ft) := q00
  subst q00
  obtain ⟨hP, hD⟩ := va_join (wr := (w1 cI cZ bd (sc, st, en, du, th, yk, yv, yr, yt, yl, yb, yp, yg))) (w1 := (wlo cI cZ cJ ad qo (n, sc, st, en, du, fo, fk, fv, fr, fc, fb, fp, ft) fl2)) hP hD [0, 1, 2, 3, 4, 5, 6, 7, 8, 18] [9, 10, 11, 12, 13, 14, 15, 16, 17] rfl rfl (by decide) (by decide) hk1 hFc hP1 hD1
  have hP := hP.sub (ws' := (wL cI cZ cJ ad bd qo (n, sc, st, en, du, fo, fk, fv, fr, fc, fb, fp, ft) (sc, st, en, du, th, yk, yv, yr, yt, yl, yb, yp, yg) fl2)) [9, 10, 11, 12, 13, 14, 15, 16, 17, 0, 1, 2, 3, 4, 5, 6, 7, 8, 18] rfl
  have hD := hD.sub (ws' := (wL cI cZ cJ ad bd qo (n, sc, st, en, du, fo, fk, fv, fr, fc, fb, fp, ft) (sc, st, en, du, th, yk, yv, yr, yt, yl, yb, yp, yg) fl2)) [9, 10, 11, 12, 13, 14, 15, 16, 17, 0, 1, 2, 3, 4, 5, 6, 7, 8, 18] (by decide) rfl
  generalize H1 = H at hP hS ⊢
  refine lv_istore (lv' := [(5, .int r0), (0, .ref b), (1, .ref (ad 0)), (2, .ref (bd 0)), (3, .ref qo), (4, .int (nI (3 * i)))]) hx hb dL_law_338 hl (by decide) rfl (fun ls hl => ?_)
  refine lv_aload_n hx hb dL_law_340 rfl (lv_at hl 3 rfl) ?_
  refine lv_aload_n hx hb dL_law_341 rfl (lv_at hl 1 rfl) ?_
  refine lv_iload hx hb dL_law_342 (lv_at hl 5 rfl) ?_
  refine lv_iconst (v := nI 1) hx hb dL_law_344 (by decide) ?_
  refine lv_iadd hx hb dL_law_345 ?_
  refine qa_top (nI_add (3 * i) 1) ?_
  refine qa_sld (i := 3 * i + 1) hx hb hX hbl hbA hS (by omega) (by omega) dL_law_346 ?_
  have hPc := hP.sub (ws' := (w1 cI cZ bd (sc, st, en, du, th, yk, yv, yr, yt, yl, yb, yp, yg))) [9, 10, 11, 12, 13, 14, 15, 16, 17] rfl
  have hDc := hD.sub (ws' := (w1 cI cZ bd (sc, st, en, du, th, yk, yv, yr, yt, yl, yb, yp, yg))) [9, 10, 11, 12, 13, 14, 15, 16, 17] (by decide) rfl
  have hFc := va_free (wc := (w1 cI cZ bd (sc, st, en, du, th, yk, yv, yr, yt, yl, yb, yp, yg))) hD hS hA [9, 10, 11, 12, 13, 14, 15, 16, 17] rfl
  refine va_calli (va_runV (As := [.int (xs (3 * i + 1))]) (rest := []) ⟨hx, hb, hml, hown, hts⟩ (c1_key l dC dI cI cZ bd H.size sc st en du th yk yv yr yt yl yb yp yg (xs (3 * i + 1)) (by omega) (by omega)) (cwV 1 hts gL_law_X1_key rfl rfl rfl (by decide +kernel) ⟨Nat.le_of_ble_eq_true rfl, Nat.le_of_ble_eq_true rfl⟩) ⟨bl_w, va_recv hKc hPc (ci := 1) (q0 := 0) rfl rfl, fun U hU hW => ⟨rfl, by rw [hU], by rw [hU]; exact hPc, va_K.moved hW.alike hKc, hDc.weaken (fun _ _ _ _ => trivial)⟩⟩ rfl rfl hl.1 rfl (lv_room (Nat.le_of_ble_eq_true rfl)) dL_law_347 ⟨by show 20 + i + 1 + 0 ≤ 1045; omega, by show 30400 + 6 * i + 6 + 0 ≤ 38468; omega⟩) hS (fun q _ h => hFc q h) hFc (fun r1 v9 t H1 locs ht hvm q1 hB hz1 hk1 hS => ?_)
  obtain ⟨sg3, st3, en3, du3, th3, yk3, yv3, yr3, yt3, yl3, yb3, yp3, yg3⟩ := v9
  obtain ⟨hP1, hK1, hD1⟩ := hB
  rw [ht] at hP1
  obtain ⟨hP, hD⟩ := va_join (wr := (w0 cI cZ ad (n, sc, st, en, du, fo, fk, fv, fr, fc, fb, fp, ft) ++ [(qo, .inl (cJ, 1, .inr (.inl fl2)))])) (w1 := (w1 cI cZ bd (sg3, st3, en3, du3, th3, yk3, yv3, yr3, yt3, yl3, yb3, yp3, yg3))) hP hD [9, 10, 11, 12, 13, 14, 15, 16, 17] [0, 1, 2, 3, 4, 5, 6, 7, 8, 18] rfl rfl (by decide) (by decide) hk1 hFc hP1 hD1
  have hP := hP.sub (ws' := (wL cI cZ cJ ad bd qo (n, sc, st, en, du, fo, fk, fv, fr, fc, fb, fp, ft) (sg3, st3, en3, du3, th3, yk3, yv3, yr3, yt3, yl3, yb3, yp3, yg3) fl2)) [0, 1, 2, 3, 4, 5, 6, 7, 8, 10, 11, 12, 13, 14, 15, 16, 17, 18, 9] rfl
  have hD := hD.sub (ws' := (wL cI cZ cJ ad bd qo (n, sc, st, en, du, fo, fk, fv, fr, fc, fb, fp, ft) (sg3, st3, en3, du3, th3, yk3, yv3, yr3, yt3, yl3, yb3, yp3, yg3) fl2)) [0, 1, 2, 3, 4, 5, 6, 7, 8, 10, 11, 12, 13, 14, 15, 16, 17, 18, 9] (by decide) rfl
  generalize H1 = H at hP hS ⊢
  obtain ⟨z, hz3, hz4, hz5, hz6⟩ := vk_eq hR hrr (by omega) q0 q1
  cases hz4
  refine lv_istore (lv' := [(6, .int r1), (5, .int r0), (0, .ref b), (1, .ref (ad 0)), (2, .ref (bd 0)), (3, .ref qo), (4, .int (nI (3 * i)))]) hx hb dL_law_350 hl (by decide) rfl (fun ls hl => ?_)
  refine lv_aload_n hx hb dL_law_352 rfl (lv_at hl 4 rfl) ?_
  have hPc := hP.sub (ws' := (w1 cI cZ bd (sc, st, en, du, th3, yk, yv, yr, yt, yl, yb, yp, yg))) [9, 10, 11, 12, 13, 14, 15, 16, 17] rfl
  refine vp_callSi (W.runV (As := []) (rest := []) ⟨hx, hb, hml, hown, hts⟩ (c1_thrown l dC dI cI cZ bd sc st en du th3 yk yv yr yt yl yb yp yg  ) (cwV 0 hts gL_law_X1_thrown rfl rfl rfl (by decide +kernel) ⟨Nat.le_of_ble_eq_true rfl, Nat.le_of_ble_eq_true rfl⟩) ⟨bl_r, va_recv hKc hPc (ci := 1) (q0 := 0) rfl rfl, fun U hU hW => ⟨rfl, by rw [hU]; exact hPc, va_K.moved hW.alike hKc⟩⟩ rfl rfl hl.1 rfl (lv_room (Nat.le_of_ble_eq_true rfl)) dL_law_353 ⟨by show 20 + i + 1 + 0 ≤ 1045; omega, by show 30400 + 6 * i + 6 + 0 ≤ 38468; omega⟩) (fun rt qt => ?_)
  refine lv_iload hx hb dL_law_356 (lv_at hl 1 rfl) ?_
  refine lv_icmp_eq (tgt := 363) hx hb dL_law_358 (by decide) (fun c1 => ?_) (fun c1 => absurd (qt.trans hz5.symm) c1)
  refine lv_iload hx hb dL_law_363 (lv_at hl 1 rfl) ?_
  refine lv_if_ne (tgt := 380) hx hb dL_law_365 (by decide) (fun c2 => ?_) (fun c2 => ?_)
  · refine lv_goto (tgt := 622) hx hb dL_law_380 (by decide) ?_
    refine W.widen (k := 20 + (i + 1)) (n := 30400 + 6 * (i + 1)) (by omega) (by omega) ?_
    exact hk _ _ _ _ _ ls (rel_up hR) hP hD hS (lv_sub hl [2, 3, 4, 5, 6] rfl)
  · have hzz : th3 = 0 := by rw [hz5] at c2; exact nI_inj (by omega) (by omega) c2
    subst hzz
    obtain ⟨j, j1, ⟨rv, j2, j3⟩, j4⟩ := hz6 rfl
    have hre : rv = r1 := key_eq hrr j1 j3 j4
    refine lv_aload_n hx hb dL_law_368 rfl (lv_at hl 5 rfl) ?_
    refine lv_iconst (v := nI 0) hx hb dL_law_369 (by decide) ?_
    refine va_lald hx hb hK hP 18 2 rfl rfl (i := nI 0) (vp_in_nI (by omega) (by omega)) dL_law_370 ?_
    refine lv_iload hx hb dL_law_371 (lv_at hl 0 rfl) ?_
    refine lv_i2l (v := r1.toInt64) hx hb dL_law_373 rfl ?_
    refine W.lcmp hx hb dL_law_374 ?_
    refine lv_if_eq (tgt := 380) hx hb dL_law_375 (by decide) (fun c3 => ?_) (fun c3 => absurd (by rw [nI_clamp (by omega), show fl2 0 = rv.toInt64 from j2, hre]; exact lcmp_0 _) c3)
    refine lv_goto (tgt := 622) hx hb dL_law_380 (by decide) ?_
    refine W.widen (k := 20 + (i + 1)) (n := 30400 + 6 * (i + 1)) (by omega) (by omega) ?_
    exact hk _ _ _ _ _ ls (rel_up hR) hP hD hS (lv_sub hl [2, 3, 4, 5, 6] rfl)
end LAW
