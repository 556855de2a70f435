abbrev ktl (cI cZ cJ : ClassId) : List (ClassId × FieldType) := [(cI, .int), (cZ, .boolean), (cJ, .long)]
abbrev wlo (cI cZ cJ : ClassId) (ad : Nat → Nat) (qo : Nat) (u : C0) (fl : Nat → Int64) : va_W := w0 cI cZ ad u ++ [(qo, .inl (cJ, 1, .inr (.inl fl)))]
abbrev pr_l (dC : Nat → ClassId) (dI : Nat → Nat → Nat) (cI cZ cJ : ClassId) (ws : va_W) (sz sa sb : Nat) (U : State) : Prop := U.heap.size = sz ∧ va_P (dC, dI) vwCl ws U.heap ∧ va_K (dC, dI) vwCl (ktl cI cZ cJ) U ∧ va_D (fun _ => True) ws ∧ tp (va_A ws sz) sa sb U U.heap
theorem bl_l {dC : Nat → ClassId} {dI : Nat → Nat → Nat} {cI cZ cJ : ClassId} {ws : va_W} {av : List Value} {sz sa sb : Nat} : FrameBlind (va_Pc av (pr_l dC dI cI cZ cJ ws sz sa sb)) := fun a U g mk q => by
  obtain ⟨q0, q1, qP, qK, qD, qT⟩ := q
  exact ⟨q0, q1, qP, va_K.moved (u := U) (U := U.calling g mk a) (Vm.Alike.refl U.vm) qK, qD, tp_same qT rfl⟩
abbrev atl (dC : Nat → ClassId) (dI : Nat → Nat → Nat) (cI cZ cJ : ClassId) (ad : Nat → Nat) (qo : Nat) (A : Nat → Prop) (u : C0 × (Nat → Int64)) (t : State) : Prop := va_P (dC, dI) vwCl (wlo cI cZ cJ ad qo u.1 u.2) t.heap ∧ va_K (dC, dI) vwCl (ktl cI cZ cJ) t ∧ va_D A (wlo cI cZ cJ ad qo u.1 u.2)
set_option maxHeartbeats 4000000 in
set_option maxRecDepth 100000 in
theorem kL_value (l : Launch) (hlt : l.stackTraces = false) (dC : Nat → ClassId) (dI : Nat → Nat → Nat) (cI cZ cJ : ClassId) (ad : Nat → Nat) (qo sz sa sb : Nat) (n sc st en du : Nat) (fo fk fv fr fc fb fp ft : Nat → Int32) (fl : Nat → Int64) (x : Int32) (hn : n ≤ 60) : Met l yL_value wsL_value ({ frames := 8, cells := 1, slots := 6, locals := 160 } : Room) (va_Pc [.ref (ad 0), .int x, .ref qo] (pr_l dC dI cI cZ cJ (wlo cI cZ cJ ad qo (n, sc, st, en, du, fo, fk, fv, fr, fc, fb, fp, ft) fl) sz sa sb)) (va_Qi (fun (r : Int32) (u : C0 × (Nat → Int64)) => u.1 = (n, sc, st, en, du, fo, fk, fv, fr, fc, fb, fp, ft) ∧ ((r = nI 0 ∧ ∃ j, j < n ∧ ix fo n x j ∧ fo j = x ∧ ∃ r0 : Int32, u.2 0 = r0.toInt64 ∧ r0 = fv j) ∨ (r = nI 1 ∧ (x < nI st ∨ nI en ≤ x)) ∨ (r = nI 2 ∧ ¬ x < nI st ∧ x < nI en ∧ ∃ j, ix fo n x j ∧ (j = n ∨ (j < n ∧ ¬ fo j = x))))) (atl dC dI cI cZ cJ ad qo (va_A (wlo cI cZ cJ ad qo (n, sc, st, en, du, fo, fk, fv, fr, fc, fb, fp, ft) fl) sz)) (va_A (wlo cI cZ cJ ad qo (n, sc, st, en, du, fo, fk, fv, fr, fc, fb, fp, ft) fl) sz)) 1 6 (va_A (wlo cI cZ cJ ad qo (n, sc, st, en, du, fo, fk, fv, fr, fc, fb, fp, ft) fl) sz) := by
  refine va_MetW (cc := cL_value) (maxL := 4) (ret := (some .int)) (hh := [(0, 9, 12, 13), (0, 9, 15, 15)]) (by decide) rfl ?_
  intro p e s m args below meth c s₁ B hml hv
  obtain ⟨rfl, hsz, hP, hK, hD0, hT⟩ := hv
  have hx := B.exec
  have hb := B.bytes
  have hr := B.returns
  have hts := atoms_spec (ws := wsL_value) B.pre
  have hown : s.vm.findClass RL = some m.cls := findClass_of_methodNamed B.named
  have hlocks := B.notSynchronized
  have htab := vx_table (x := yL_value) B (hts _ List.mem_cons_self)
  subst hsz
  have hD := hD0.self (sz := s.heap.size)
  generalize hAe : va_A (wlo cI cZ cJ ad qo (n, sc, st, en, du, fo, fk, fv, fr, fc, fb, fp, ft) fl) s.heap.size = A at hD hT ⊢
  have hA : ∀ q : Nat, s.heap.size ≤ q → A q := fun q h => by rw [← hAe]; exact Or.inr h
  have hS : va_S A s.heap s.heap [] := va_S.rf
  have hl := lv_entry ([.ref (ad 0), .int x, .ref qo]) (n := 4) (Nat.le_of_ble_eq_true rfl)
  rw [lg_entry_eq]
  generalize (lg_sl ([.ref (ad 0), .int x, .ref qo]) ++ List.replicate (4 - (lg_sl ([.ref (ad 0), .int x, .ref qo])).length) Slot.unset).toArray = ls at hl ⊢
  have hl : lv_has ls 4 [(0, .ref (ad 0)), (1, .int x), (2, .ref qo)] := hl
  refine lv_aload_n hx hb dL_value_0 rfl (lv_at hl 2 rfl) ?_
  refine lv_iconst (v := nI 0) hx hb dL_value_1 (by decide) ?_
  refine lv_aload_n hx hb dL_value_2 rfl (lv_at hl 0 rfl) ?_
  refine lv_iload_n hx hb dL_value_3 rfl (lv_at hl 1 rfl) ?_
  have hPc := hP.sub (ws' := (w0 cI cZ ad (n, sc, st, en, du, fo, fk, fv, fr, fc, fb, fp, ft))) [0, 1, 2, 3, 4, 5, 6, 7, 8] rfl
  have hDc := hD.sub (ws' := (w0 cI cZ ad (n, sc, st, en, du, fo, fk, fv, fr, fc, fb, fp, ft))) [0, 1, 2, 3, 4, 5, 6, 7, 8] (by decide) rfl
  have hKc := hK.sub (tys' := kt cI cZ) [0, 1] rfl
  have hFc := va_free (wc := (w0 cI cZ ad (n, sc, st, en, du, fo, fk, fv, fr, fc, fb, fp, ft))) hD hS hA [0, 1, 2, 3, 4, 5, 6, 7, 8] rfl
  refine vx_calli (vx_runV (As := [.int x]) (rest := [.int (nI 0), .ref qo]) ⟨hx, hb, hml, hown, hts⟩ (c0_value l hlt dC dI cI cZ ad s.heap.size sa sb n sc st en du fo fk fv fr fc fb fp ft x hn) (cwV 1 hts gL_value_X0_value rfl rfl rfl (by decide +kernel) ⟨Nat.le_of_ble_eq_true rfl, Nat.le_of_ble_eq_true rfl⟩) ⟨bl_x, va_recv hKc hPc (ci := 0) (q0 := 0) rfl rfl, fun U hU hW => ⟨rfl, by rw [hU], by rw [hU]; exact hPc, va_K.moved hW.alike hKc, hDc.weaken (fun _ _ _ _ => trivial), tp_go hT hW (fun a _ _ => by rw [hU]) hFc⟩⟩ rfl rfl hl.1 rfl (lv_room (Nat.le_of_ble_eq_true rfl)) dL_value_4 ⟨by decide, by decide⟩) hS (fun q _ h => hFc q h) hFc (fun q _ h => hFc q h) (fun E ce q9 u t H1 locs ht hvm hpx hbx hz1 hk1 hS hce hcv hcl => ?_) (fun r1 u t H1 locs ht hvm hq hB hz1 hk1 hS => ?_)
  · obtain ⟨hbc, hP1, hK1, hD1⟩ := hbx
    subst hpx
    rw [ht] at hP1
    obtain ⟨hP, hD⟩ := va_join (wr := [(qo, .inl (cJ, 1, .inr (.inl fl)))]) (w1 := (w0 cI cZ ad (n, sc, st, en, du, fo, fk, fv, fr, fc, fb, fp, ft))) hP hD [0, 1, 2, 3, 4, 5, 6, 7, 8] [9] rfl rfl (by decide) (by decide) hk1 hFc hP1 hD1
    have hP := hP.sub (ws' := (wlo cI cZ cJ ad qo (n, sc, st, en, du, fo, fk, fv, fr, fc, fb, fp, ft) fl)) [1, 2, 3, 4, 5, 6, 7, 8, 9, 0] rfl
    have hD := hD.sub (ws' := (wlo cI cZ cJ ad qo (n, sc, st, en, du, fo, fk, fv, fr, fc, fb, fp, ft) fl)) [1, 2, 3, 4, 5, 6, 7, 8, 9, 0] (by decide) rfl
    have hc0 : c.exceptionTable.toList = tableOf [(0, 9, 12, 13), (0, 9, 15, 15)] := htab
    rcases hbc with ⟨rfl, hbc⟩ | ⟨rfl, hbc⟩
    · refine vx_catch hown [] ⟨0, 9, 12, 13⟩ [⟨0, 9, 15, 15⟩] hc0 (fun z h => by cases h) (by decide) (by decide) (hts (.classLink RL 13 nIO) (List.mem_of_getElem? (i := 1) rfl)) (va_Nw.use rfl hT.2.2.2.2.2.2.2.1) hce hcv hcl ?_
      refine lv_astore_n (lv' := [(3, .ref q9), (0, .ref (ad 0)), (1, .int x), (2, .ref qo)]) hx hb dL_value_12 rfl hl (by decide) rfl (fun ls hl => ?_)
      refine lv_iconst (v := nI 1) hx hb dL_value_13 (by decide) ?_
      exact W.iret (v := nI 1) hx hb hr (fun t ht hW => ⟨⟨_, ((n, sc, st, en, du, fo, fk, fv, fr, fc, fb, fp, ft), fl), rfl, ⟨rfl, Or.inr (Or.inl ⟨rfl, hbc⟩)⟩, by rw [ht]; exact hP, va_K.moved hW.alike hK, hD⟩, hS.F ht⟩) hS.2.2 dL_value_14
    · refine vx_catch hown [⟨0, 9, 12, 13⟩] ⟨0, 9, 15, 15⟩ [] hc0 (fun z h => Or.inr (by cases List.mem_singleton.mp h; exact ⟨by decide, nIO, (hts (.classLink RL 13 nIO) (List.mem_of_getElem? (i := 1) rfl)), hT.2.2.2.2.2.2.2.2.2⟩)) (by decide) (by decide) (hts (.classLink RL 15 nNS) (List.mem_of_getElem? (i := 2) rfl)) (va_Nw.use rfl hT.2.2.2.2.2.2.2.2.1) hce hcv hcl ?_
      refine lv_astore_n (lv' := [(3, .ref q9), (0, .ref (ad 0)), (1, .int x), (2, .ref qo)]) hx hb dL_value_15 rfl hl (by decide) rfl (fun ls hl => ?_)
      refine lv_iconst (v := nI 2) hx hb dL_value_16 (by decide) ?_
      exact W.iret (v := nI 2) hx hb hr (fun t ht hW => ⟨⟨_, ((n, sc, st, en, du, fo, fk, fv, fr, fc, fb, fp, ft), fl), rfl, ⟨rfl, Or.inr (Or.inr ⟨rfl, hbc⟩)⟩, by rw [ht]; exact hP, va_K.moved hW.alike hK, hD⟩, hS.F ht⟩) hS.2.2 dL_value_17
  · obtain ⟨hP1, hK1, hD1⟩ := hB
    obtain ⟨rfl, j, hj1, hj2, hj3, hj4⟩ := hq
    rw [ht] at hP1
    obtain ⟨hP, hD⟩ := va_join (wr := [(qo, .inl (cJ, 1, .inr (.inl fl)))]) (w1 := (w0 cI cZ ad (n, sc, st, en, du, fo, fk, fv, fr, fc, fb, fp, ft))) hP hD [0, 1, 2, 3, 4, 5, 6, 7, 8] [9] rfl rfl (by decide) (by decide) hk1 hFc hP1 hD1
    have hP := hP.sub (ws' := (wlo cI cZ cJ ad qo (n, sc, st, en, du, fo, fk, fv, fr, fc, fb, fp, ft) fl)) [1, 2, 3, 4, 5, 6, 7, 8, 9, 0] rfl
    have hD := hD.sub (ws' := (wlo cI cZ cJ ad qo (n, sc, st, en, du, fo, fk, fv, fr, fc, fb, fp, ft) fl)) [1, 2, 3, 4, 5, 6, 7, 8, 9, 0] (by decide) rfl
    generalize H1 = H at hP hS ⊢
    refine lv_i2l (v := r1.toInt64) hx hb dL_value_7 rfl ?_
    refine va_last hx hb hK hP hD hS 9 2 rfl rfl (i := nI 0) (vp_in_nI (by omega) (by omega)) dL_value_8 (fun H locs hP hD hS => ?_)
    have hP : va_P (dC, dI) vwCl (wlo cI cZ cJ ad qo (n, sc, st, en, du, fo, fk, fv, fr, fc, fb, fp, ft) (vp_updL fl (nI 0).toNatClampNeg r1.toInt64)) H := hP
    have hD : va_D A (wlo cI cZ cJ ad qo (n, sc, st, en, du, fo, fk, fv, fr, fc, fb, fp, ft) (vp_updL fl (nI 0).toNatClampNeg r1.toInt64)) := hD
    have hf0 : (vp_updL fl (nI 0).toNatClampNeg r1.toInt64) 0 = r1.toInt64 := by rw [nI_clamp (by omega)]; exact pk_uLs
    refine lv_goto (tgt := 18) hx hb dL_value_9 (by decide) ?_
    refine lv_iconst (v := nI 0) hx hb dL_value_18 (by decide) ?_
    exact W.iret (v := nI 0) hx hb hr (fun t ht hW => ⟨⟨_, ((n, sc, st, en, du, fo, fk, fv, fr, fc, fb, fp, ft), (vp_updL fl (nI 0).toNatClampNeg r1.toInt64)), rfl, ⟨rfl, Or.inl ⟨rfl, j, hj1, hj2, hj3, r1, hf0, hj4⟩⟩, by rw [ht]; exact hP, va_K.moved hW.alike hK, hD⟩, hS.F ht⟩) hS.2.2 dL_value_19
set_option maxHeartbeats 4000000 in
set_option maxRecDepth 100000 in
theorem kL_key (l : Launch) (hlt : l.stackTraces = false) (dC : Nat → ClassId) (dI : Nat → Nat → Nat) (cI cZ cJ : ClassId) (ad : Nat → Nat) (qo sz sa sb : Nat) (n sc st en du : Nat) (fo fk fv fr fc fb fp ft : Nat → Int32) (fl : Nat → Int64) (x : Int32) (hn : n ≤ 60) : Met l yL_key wsL_key ({ frames := 8, cells := 1, slots := 6, locals := 160 } : Room) (va_Pc [.ref (ad 0), .int x, .ref qo] (pr_l dC dI cI cZ cJ (wlo cI cZ cJ ad qo (n, sc, st, en, du, fo, fk, fv, fr, fc, fb, fp, ft) fl) sz sa sb)) (va_Qi (fun (r : Int32) (u : C0 × (Nat → Int64)) => u.1 = (n, sc, st, en, du, fo, fk, fv, fr, fc, fb, fp, ft) ∧ ((r = nI 0 ∧ ∃ j, j < n ∧ ix fo n x j ∧ fo j = x ∧ ∃ r0 : Int32, u.2 0 = r0.toInt64 ∧ ((¬ fr j = 0 ∧ r0 = fk j + nI 16) ∨ (fr j = 0 ∧ r0 = fk j))) ∨ (r = nI 1 ∧ (x < nI st ∨ nI en ≤ x)) ∨ (r = nI 2 ∧ ¬ x < nI st ∧ x < nI en ∧ ∃ j, ix fo n x j ∧ (j = n ∨ (j < n ∧ ¬ fo j = x))))) (atl dC dI cI cZ cJ ad qo (va_A (wlo cI cZ cJ ad qo (n, sc, st, en, du, fo, fk, fv, fr, fc, fb, fp, ft) fl) sz)) (va_A (wlo cI cZ cJ ad qo (n, sc, st, en, du, fo, fk, fv, fr, fc, fb, fp, ft) fl) sz)) 1 6 (va_A (wlo cI cZ cJ ad qo (n, sc, st, en, du, fo, fk, fv, fr, fc, fb, fp, ft) fl) sz) := by
  refine va_MetW (cc := cL_key) (maxL := 4) (ret := (some .int)) (hh := [(0, 9, 12, 13), (0, 9, 15, 15)]) (by decide) rfl ?_
  intro p e s m args below meth c s₁ B hml hv
  obtain ⟨rfl, hsz, hP, hK, hD0, hT⟩ := hv
  have hx := B.exec
  have hb := B.bytes
  have hr := B.returns
  have hts := atoms_spec (ws := wsL_key) B.pre
  have hown : s.vm.findClass RL = some m.cls := findClass_of_methodNamed B.named
  have hlocks := B.notSynchronized
  have htab := vx_table (x := yL_key) B (hts _ List.mem_cons_self)
  subst hsz
  have hD := hD0.self (sz := s.heap.size)
  generalize hAe : va_A (wlo cI cZ cJ ad qo (n, sc, st, en, du, fo, fk, fv, fr, fc, fb, fp, ft) fl) s.heap.size = A at hD hT ⊢
  have hA : ∀ q : Nat, s.heap.size ≤ q → A q := fun q h => by rw [← hAe]; exact Or.inr h
  have hS : va_S A s.heap s.heap [] := va_S.rf
  have hl := lv_entry ([.ref (ad 0), .int x, .ref qo]) (n := 4) (Nat.le_of_ble_eq_true rfl)
  rw [lg_entry_eq]
  generalize (lg_sl ([.ref (ad 0), .int x, .ref qo]) ++ List.replicate (4 - (lg_sl ([.ref (ad 0), .int x, .ref qo])).length) Slot.unset).toArray = ls at hl ⊢
  have hl : lv_has ls 4 [(0, .ref (ad 0)), (1, .int x), (2, .ref qo)] := hl
  refine lv_aload_n hx hb dL_key_0 rfl (lv_at hl 2 rfl) ?_
  refine lv_iconst (v := nI 0) hx hb dL_key_1 (by decide) ?_
  refine lv_aload_n hx hb dL_key_2 rfl (lv_at hl 0 rfl) ?_
  refine lv_iload_n hx hb dL_key_3 rfl (lv_at hl 1 rfl) ?_
  have hPc := hP.sub (ws' := (w0 cI cZ ad (n, sc, st, en, du, fo, fk, fv, fr, fc, fb, fp, ft))) [0, 1, 2, 3, 4, 5, 6, 7, 8] rfl
  have hDc := hD.sub (ws' := (w0 cI cZ ad (n, sc, st, en, du, fo, fk, fv, fr, fc, fb, fp, ft))) [0, 1, 2, 3, 4, 5, 6, 7, 8] (by decide) rfl
  have hKc := hK.sub (tys' := kt cI cZ) [0, 1] rfl
  have hFc := va_free (wc := (w0 cI cZ ad (n, sc, st, en, du, fo, fk, fv, fr, fc, fb, fp, ft))) hD hS hA [0, 1, 2, 3, 4, 5, 6, 7, 8] rfl
  refine vx_calli (vx_runV (As := [.int x]) (rest := [.int (nI 0), .ref qo]) ⟨hx, hb, hml, hown, hts⟩ (c0_key l hlt dC dI cI cZ ad s.heap.size sa sb n sc st en du fo fk fv fr fc fb fp ft x hn) (cwV 1 hts gL_key_X0_key rfl rfl rfl (by decide +kernel) ⟨Nat.le_of_ble_eq_true rfl, Nat.le_of_ble_eq_true rfl⟩) ⟨bl_x, va_recv hKc hPc (ci := 0) (q0 := 0) rfl rfl, fun U hU hW => ⟨rfl, by rw [hU], by rw [hU]; exact hPc, va_K.moved hW.alike hKc, hDc.weaken (fun _ _ _ _ => trivial), tp_go hT hW (fun a _ _ => by rw [hU]) hFc⟩⟩ rfl rfl hl.1 rfl (lv_room (Nat.le_of_ble_eq_true rfl)) dL_key_4 ⟨by decide, by decide⟩) hS (fun q _ h => hFc q h) hFc (fun q _ h => hFc q h) (fun E ce q9 u t H1 locs ht hvm hpx hbx hz1 hk1 hS hce hcv hcl => ?_) (fun r1 u t H1 locs ht hvm hq hB hz1 hk1 hS => ?_)
  · obtain ⟨hbc, hP1, hK1, hD1⟩ := hbx
    subst hpx
    rw [ht] at hP1
    obtain ⟨hP, hD⟩ := va_join (wr := [(qo, .inl (cJ, 1, .inr (.inl fl)))]) (w1 := (w0 cI cZ ad (n, sc, st, en, du, fo, fk, fv, fr, fc, fb, fp, ft))) hP hD [0, 1, 2, 3, 4, 5, 6, 7, 8] [9] rfl rfl (by decide) (by decide) hk1 hFc hP1 hD1
    have hP := hP.sub (ws' := (wlo cI cZ cJ ad qo (n, sc, st, en, du, fo, fk, fv, fr, fc, fb, fp, ft) fl)) [1, 2, 3, 4, 5, 6, 7, 8, 9, 0] rfl
    have hD := hD.sub (ws' := (wlo cI cZ cJ ad qo (n, sc, st, en, du, fo, fk, fv, fr, fc, fb, fp, ft) fl)) [1, 2, 3, 4, 5, 6, 7, 8, 9, 0] (by decide) rfl
    have hc0 : c.exceptionTable.toList = tableOf [(0, 9, 12, 13), (0, 9, 15, 15)] := htab
    rcases hbc with ⟨rfl, hbc⟩ | ⟨rfl, hbc⟩
    · refine vx_catch hown [] ⟨0, 9, 12, 13⟩ [⟨0, 9, 15, 15⟩] hc0 (fun z h => by cases h) (by decide) (by decide) (hts (.classLink RL 13 nIO) (List.mem_of_getElem? (i := 1) rfl)) (va_Nw.use rfl hT.2.2.2.2.2.2.2.1) hce hcv hcl ?_
      refine lv_astore_n (lv' := [(3, .ref q9), (0, .ref (ad 0)), (1, .int x), (2, .ref qo)]) hx hb dL_key_12 rfl hl (by decide) rfl (fun ls hl => ?_)
      refine lv_iconst (v := nI 1) hx hb dL_key_13 (by decide) ?_
      exact W.iret (v := nI 1) hx hb hr (fun t ht hW => ⟨⟨_, ((n, sc, st, en, du, fo, fk, fv, fr, fc, fb, fp, ft), fl), rfl, ⟨rfl, Or.inr (Or.inl ⟨rfl, hbc⟩)⟩, by rw [ht]; exact hP, va_K.moved hW.alike hK, hD⟩, hS.F ht⟩) hS.2.2 dL_key_14
    · refine vx_catch hown [⟨0, 9, 12, 13⟩] ⟨0, 9, 15, 15⟩ [] hc0 (fun z h => Or.inr (by cases List.mem_singleton.mp h; exact ⟨by decide, nIO, (hts (.classLink RL 13 nIO) (List.mem_of_getElem? (i := 1) rfl)), hT.2.2.2.2.2.2.2.2.2⟩)) (by decide) (by decide) (hts (.classLink RL 15 nNS) (List.mem_of_getElem? (i := 2) rfl)) (va_Nw.use rfl hT.2.2.2.2.2.2.2.2.1) hce hcv hcl ?_
      refine lv_astore_n (lv' := [(3, .ref q9), (0, .ref (ad 0)), (1, .int x), (2, .ref qo)]) hx hb dL_key_15 rfl hl (by decide) rfl (fun ls hl => ?_)
      refine lv_iconst (v := nI 2) hx hb dL_key_16 (by decide) ?_
      exact W.iret (v := nI 2) hx hb hr (fun t ht hW => ⟨⟨_, ((n, sc, st, en, du, fo, fk, fv, fr, fc, fb, fp, ft), fl), rfl, ⟨rfl, Or.inr (Or.inr ⟨rfl, hbc⟩)⟩, by rw [ht]; exact hP, va_K.moved hW.alike hK, hD⟩, hS.F ht⟩) hS.2.2 dL_key_17
  · obtain ⟨hP1, hK1, hD1⟩ := hB
    obtain ⟨rfl, j, hj1, hj2, hj3, hj4⟩ := hq
    rw [ht] at hP1
    obtain ⟨hP, hD⟩ := va_join (wr := [(qo, .inl (cJ, 1, .inr (.inl fl)))]) (w1 := (w0 cI cZ ad (n, sc, st, en, du, fo, fk, fv, fr, fc, fb, fp, ft))) hP hD [0, 1, 2, 3, 4, 5, 6, 7, 8] [9] rfl rfl (by decide) (by decide) hk1 hFc hP1 hD1
    have hP := hP.sub (ws' := (wlo cI cZ cJ ad qo (n, sc, st, en, du, fo, fk, fv, fr, fc, fb, fp, ft) fl)) [1, 2, 3, 4, 5, 6, 7, 8, 9, 0] rfl
    have hD := hD.sub (ws' := (wlo cI cZ cJ ad qo (n, sc, st, en, du, fo, fk, fv, fr, fc, fb, fp, ft) fl)) [1, 2, 3, 4, 5, 6, 7, 8, 9, 0] (by decide) rfl
    generalize H1 = H at hP hS ⊢
    refine lv_i2l (v := r1.toInt64) hx hb dL_key_7 rfl ?_
    refine va_last hx hb hK hP hD hS 9 2 rfl rfl (i := nI 0) (vp_in_nI (by omega) (by omega)) dL_key_8 (fun H locs hP hD hS => ?_)
    have hP : va_P (dC, dI) vwCl (wlo cI cZ cJ ad qo (n, sc, st, en, du, fo, fk, fv, fr, fc, fb, fp, ft) (vp_updL fl (nI 0).toNatClampNeg r1.toInt64)) H := hP
    have hD : va_D A (wlo cI cZ cJ ad qo (n, sc, st, en, du, fo, fk, fv, fr, fc, fb, fp, ft) (vp_updL fl (nI 0).toNatClampNeg r1.toInt64)) := hD
    have hf0 : (vp_updL fl (nI 0).toNatClampNeg r1.toInt64) 0 = r1.toInt64 := by rw [nI_clamp (by omega)]; exact pk_uLs
    refine lv_goto (tgt := 18) hx hb dL_key_9 (by decide) ?_
    refine lv_iconst (v := nI 0) hx hb dL_key_18 (by decide) ?_
    exact W.iret (v := nI 0) hx hb hr (fun t ht hW => ⟨⟨_, ((n, sc, st, en, du, fo, fk, fv, fr, fc, fb, fp, ft), (vp_updL fl (nI 0).toNatClampNeg r1.toInt64)), rfl, ⟨rfl, Or.inl ⟨rfl, j, hj1, hj2, hj3, r1, hf0, hj4⟩⟩, by rw [ht]; exact hP, va_K.moved hW.alike hK, hD⟩, hS.F ht⟩) hS.2.2 dL_key_19
