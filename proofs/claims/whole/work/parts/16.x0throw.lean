section LT
variable {p : Program} {l : Launch} {e : Env} {R : Room} {s : State} {m : MethodId} {args : Array Value} {below : List Frame} {meth : Method} {c : Code} {H : Heap} {locs : List Loc} {cells slots : Nat} {Q : State → Prop}
variable {free : Addr → Prop} {ls : Array Slot} {rest : List Value}
variable {Qc : Array Value → State → Outcome → State → Prop} {XC : String → State → State → Prop}
/-- the printed row vx_throwS, turned to a constructor that calls its superclass's by entry ix -/
theorem vx_throwSX {cc : ByteArray} {pc : Nat} (hexec : p.tables.exec = Jvm.exec) (hb : c.code = cc) (hl : l.stackTraces = false) {own cls text : String} {Y9 : String} {r9 : List String} {ik is ic ix mc ms sa : Nat} {rx : ByteArray} {A : Nat → Prop}
    (x0 : decode rx 0 = .ok (.aload_n 0, 1)) (x1 : decode rx 1 = .ok (.aload_n 1, 1)) (x2 : decode rx 2 = .ok (.invokespecial ix, 3)) (x5 : decode rx 5 = .ok (.return_, 1)) (hown : s.vm.findClass own = some m.cls) (hcls : Bundle.fit cls = true) (hnames : ∀ n ∈ Y9 :: r9, Bundle.fit n = true)
    (hk : (Cond.classLink own ik cls).before args s = true) (hini : (Cond.initialized cls).before args s = true) (hstr : vk_R own is text sa s) (hat : ∀ w ∈ (vx_ownX own ic cls ix rx Y9 r9).filter vx_no, w.before args s = true)
    (hgood : ∀ w ∈ Cond.classLink own ik cls :: Cond.initialized cls :: (vx_ownX own ic cls ix rx Y9 r9).filter vx_no, vx_ot w = true)
    (hU : vx_Zq Bundle.tN "UNASSIGNED_STACK" Bundle.steD A s s.heap) (hN : vx_Zq Bundle.tN "SUPPRESSED_SENTINEL" Bundle.listD A s s.heap) (hS : va_S A s.heap H locs) (hsize : ls.size = c.maxLocals)
    (d0 : decode cc pc = .ok (.new ik, 3)) (d3 : decode cc (pc + 3) = .ok (.dup, 1)) (d4 : decode cc (pc + 4) = .ok (.ldc is, 2)) (d6 : decode cc (pc + 6) = .ok (.invokespecial ic, 3)) (d9 : decode cc (pc + 9) = .ok (.athrow, 1))
    (hout : ∀ x ∈ c.exceptionTable.toList, covers x (pc + 9) = false)
    (hRframes : (Y9 :: r9).length + 3 < R.frames) (hRlocals : (rest.map fun v => v.category).sum + (13 * ((Y9 :: r9).length + 1) + 43) ≤ R.locals) (hRcells : cells + 1 ≤ R.cells) (hRslots : slots + 6 ≤ R.slots) (hlocks : meth.locks = false)
    (hx : ∀ t : State, s.vm.Alike t.vm → H.size ≤ t.heap.size → (∀ q : Nat, q < H.size → t.heap[q]? = H[q]?) → XC cls s t)
    (hf : ∀ z ∈ locs, free z.base) (hc : cells + 1 ≤ mc) (hs : slots + 6 ≤ ms) :
    W p l e R s m args below meth c H locs cells slots (vx_MQ below Qc XC args s mc ms free) (F0 m pc ls rest) := by
  intro T hT X
  have htr : e.platform.stackTraces = false := (show e.platform.stackTraces = l.stackTraces by rw [X.admits.platform]).trans hl
  have Y := vx_rebase X (R' := { frames := R.frames, locals := R.locals, cells := 1, slots := 6 }) (Nat.le_refl _) (Nat.le_refl _) hRcells hRslots
  obtain ⟨s', hA⟩ : ∃ z, z = (T.setVm s.vm).setFrames (.invoking m args :: below) := ⟨_, rfl⟩
  rw [← hA] at Y
  have hvm : s'.vm = s.vm := by rw [hA]; rfl
  have hhp : s'.heap = H := by rw [hA]; exact hT
  have hW0 : s.WarmedH s'.vm := by rw [hvm]; exact State.WarmedH.refl s
  have hat' : ∀ w ∈ (vx_ownX own ic cls ix rx Y9 r9).filter vx_no, w.before args s' = true := fun w hw => vx_ot_at hW0 hvm.symm (hgood w (List.mem_cons_of_mem _ (List.mem_cons_of_mem _ hw))) (hat w hw)
  have hk' : (Cond.classLink own ik cls).before args s' = true := vx_ot_at hW0 hvm.symm (hgood _ List.mem_cons_self) hk
  have hini' : (Cond.initialized cls).before args s' = true := vx_ot_at hW0 hvm.symm (hgood _ (List.mem_cons_of_mem _ List.mem_cons_self)) hini
  have hU' : vx_Zq Bundle.tN "UNASSIGNED_STACK" Bundle.steD A s' s'.heap := by rw [hhp]; exact vx_Zq.moved hW0.alike (hU.kept hS.2.1)
  have hN' : vx_Zq Bundle.tN "SUPPRESSED_SENTINEL" Bundle.listD A s' s'.heap := by rw [hhp]; exact vx_Zq.moved hW0.alike (hN.kept hS.2.1)
  have h : ∀ w ∈ Bundle.ownAtomsX own ic cls ix rx (Y9 :: r9), w.before args s' = true := vx_own hat' (vx_isRefq hU'.1) (vx_isRefq hN'.1) hU'.2.word hN'.2.word
  have hown' : s'.vm.findClass own = some m.cls := by rw [hvm]; exact hown
  have hins : (Cond.instantiable cls 6).before args s' = true := h _ (by simp [Bundle.ownAtomsX])
  obtain ⟨vm₁, cX, kX, hfX, hkX, -, -, X₁, st1⟩ := Y.newCold hexec (own := own) (C := cls) (index := ik) (n := 6) hown' hk' hins hini'
    (g := F0 m pc ls rest) rfl (by rw [hb]; exact d0) (Nat.le_refl _) (Nat.le_refl _)
  generalize hT1 : (T.setVm vm₁).pushCell { cls := cX, slots := kX.instanceTypes.map defaultValue, vm := .none } = T1 at X₁ st1
  have hcat : (Value.ref T.heap.size).category = 1 := rfl
  have hcellA : T1.heap[T.heap.size]? = some (freshCell cX kX) := by rw [← hT1]; exact State.heap_pushCell_size _ _
  have d3' : decode c.code (pc + 3) = .ok (.dup, 1) := by rw [hb]; exact d3
  have d4' : decode c.code (pc + 4) = .ok (.ldc is, 2) := by rw [hb]; exact d4
  have hstr' : vk_R own is text sa s' := vk_R.warm hW0 hstr
  obtain ⟨U, hsteps, hrun, hend, hW, hsame, ce, hce, hcl0, hcv0⟩ := ctx_throwSX X₁ hexec htr (own := own) (cls := cls) (names := Y9 :: r9) (ic := ic) x0 x1 x2 x5 hown' hcls hnames h (fun x hx => nomatch hx) hfX hkX hcellA (by rw [hhp, hT]; exact Nat.le_refl _) (msg := .ref sa) rfl
    (g := { method := m, pc := pc + 6, locals := ls, stack := .ref sa :: .ref T.heap.size :: .ref T.heap.size :: rest, locked := none }) rfl hsize rfl rfl (rest := rest) rfl
    (by rw [hb]; exact d6) (by rw [hb]; exact d9) hout hRframes (by simp only [List.map_cons, List.sum_cons, hcat]; omega) hlocks
  obtain ⟨f1, f2⟩ := vx_frame hsame
  rw [hhp] at f1 f2
  have hWs : s.WarmedH U.vm := State.WarmedH.trans hW0 hW
  have hcl : s.vm.findClass cls = some ce.cls := by
    have h9 := hcl0
    rw [hvm] at h9
    exact h9
  have hall : s.sameButNew ({ U with vm := s.vm } : State) locs mc ms := by
    subst hA
    obtain ⟨e1, e2⟩ := hsame
    rw [State.setFrames_setFrames] at e1
    have h2 : (T.setVm s.vm).sameButNew ({ U with vm := s.vm } : State) [] (0 + 1) (0 + 6) := ⟨e1, e2⟩
    have h3 := X.same.trans h2
    rw [List.append_nil] at h3
    exact h3.mono hc hs
  refine ⟨U, ?_, .threw T.heap.size, hrun, hend, Or.inr ⟨T.heap.size, rfl, cls, ce, locs, hx U hWs.alike f1 (fun q hq => f2 q hq (fun z hz => nomatch hz)), hce, hcv0, hcl, hWs, hall, hf⟩⟩
  refine st1 _ ?_
  show Steps p.tables e below (T1.setTop { method := m, pc := pc + 3, locals := ls, stack := .ref T.heap.size :: rest, locked := none }) _
  jvm_step X₁.here [X₁.here.top, hexec, d3', Value.category]
  exact X₁.ldcString hexec (own := own) (text := text) (index := is) (a := sa) hown' hstr'.1 hstr'.2
    (g := { method := m, pc := pc + 4, locals := ls, stack := .ref T.heap.size :: .ref T.heap.size :: rest, locked := none }) rfl d4' _ hsteps
end LT
abbrev nIO : String := "java/lang/IndexOutOfBoundsException"
abbrev nNS : String := "java/util/NoSuchElementException"
abbrev nRT : String := "java/lang/RuntimeException"
abbrev nEX : String := "java/lang/Exception"
/-- what a throw rests on: the two texts, the constructors above, Throwable's two statics -/
def tp (A : Nat → Prop) (sa sb : Nat) (U : State) (H : Heap) : Prop := vk_R RX0 104 "the offset is not START .. END - 1" sa U ∧ vk_R RX0 111 "there is no record at the offset" sb U ∧ va_Nw (.declares (Bundle.initS nRT)) U ∧ va_Nw (.declares (Bundle.initS nEX)) U ∧ va_Nw (.declares (Bundle.initS Bundle.tN)) U ∧ vx_Zq Bundle.tN "UNASSIGNED_STACK" Bundle.steD A U H ∧ vx_Zq Bundle.tN "SUPPRESSED_SENTINEL" Bundle.listD A U H ∧ va_Nw (.castable nIO nIO) U ∧ va_Nw (.castable nNS nNS) U ∧ va_Nc nNS nIO U
theorem tp_go {A B : Nat → Prop} {sa sb : Nat} {s U : State} {H H1 : Heap} (h : tp A sa sb s H) (hW : s.WarmedH U.vm) (hq : ∀ a : Nat, a < H.size → ¬ A a → H1[a]? = H[a]?) (hAB : ∀ q, B q → A q) : tp B sa sb U H1 := by
  obtain ⟨h1, h2, h3, h4, h5, h6, h7, h8, h9, h10⟩ := h
  exact ⟨vk_R.warm hW h1, vk_R.warm hW h2, va_Nw.warmD hW h3, va_Nw.warmD hW h4, va_Nw.warmD hW h5, vx_Zq.narrow (vx_Zq.moved hW.alike (h6.kept hq)) hAB, vx_Zq.narrow (vx_Zq.moved hW.alike (h7.kept hq)) hAB, va_Nw.warmC hW h8, va_Nw.warmC hW h9, va_Nc.moved hW.alike h10⟩
theorem tp_same {A : Nat → Prop} {sa sb : Nat} {s U : State} {H : Heap} (h : tp A sa sb s H) (hv : U.vm = s.vm) : tp A sa sb U H := by
  obtain ⟨h1, h2, h3, h4, h5, h6, h7, h8, h9, h10⟩ := h
  exact ⟨vk_R.same hv h1, vk_R.same hv h2, va_Nw.same rfl hv.symm h3, va_Nw.same rfl hv.symm h4, va_Nw.same rfl hv.symm h5, vx_Zq.moved (by rw [hv]; exact Vm.Alike.refl _) h6, vx_Zq.moved (by rw [hv]; exact Vm.Alike.refl _) h7, va_Nw.same rfl hv.symm h8, va_Nw.same rfl hv.symm h9, va_Nc.moved (by rw [hv]; exact Vm.Alike.refl _) h10⟩
abbrev pr_x (dC : Nat → ClassId) (dI : Nat → Nat → Nat) (cI cZ : ClassId) (ws : va_W) (sz sa sb : Nat) (U : State) : Prop := U.heap.size = sz ∧ va_P (dC, dI) vwCl ws U.heap ∧ va_K (dC, dI) vwCl (kt cI cZ) U ∧ va_D (fun _ => True) ws ∧ tp (va_A ws sz) sa sb U U.heap
theorem bl_x {dC : Nat → ClassId} {dI : Nat → Nat → Nat} {cI cZ : ClassId} {ws : va_W} {av : List Value} {sz sa sb : Nat} : FrameBlind (va_Pc av (pr_x dC dI cI cZ ws sz sa sb)) := fun a U g mk q => by
  obtain ⟨q0, q1, qP, qK, qD, qT⟩ := q
  exact ⟨q0, q1, qP, va_K.moved (u := U) (U := U.calling g mk a) (Vm.Alike.refl U.vm) qK, qD, tp_same qT rfl⟩
set_option maxHeartbeats 4000000 in
set_option maxRecDepth 100000 in
theorem c0_indexOfRecord (l : Launch) (hlt : l.stackTraces = false) (dC : Nat → ClassId) (dI : Nat → Nat → Nat) (cI cZ : ClassId) (ad : Nat → Nat) (sz sa sb : Nat) (n sc st en du : Nat) (fo fk fv fr fc fb fp ft : Nat → Int32) (x : Int32) (hn : n ≤ 60) : vx_Met l yX0_indexOfRecord wsX0_indexOfRecord ({ frames := 6, cells := 1, slots := 6, locals := 100 } : Room) (va_Pc [.ref (ad 0), .int x] (pr_x dC dI cI cZ (w0 cI cZ ad (n, sc, st, en, du, fo, fk, fv, fr, fc, fb, fp, ft)) sz sa sb)) (va_Qi (fun (r : Int32) (u : C0) => u = (n, sc, st, en, du, fo, fk, fv, fr, fc, fb, fp, ft) ∧ (∃ j, j < n ∧ ix fo n x j ∧ fo j = x ∧ r = nI j)) (at0 dC dI cI cZ ad (va_A (w0 cI cZ ad (n, sc, st, en, du, fo, fk, fv, fr, fc, fb, fp, ft)) sz)) (va_A (w0 cI cZ ad (n, sc, st, en, du, fo, fk, fv, fr, fc, fb, fp, ft)) sz)) (vx_X (fun u : C0 => u = (n, sc, st, en, du, fo, fk, fv, fr, fc, fb, fp, ft)) (fun E u t => ((E = nIO ∧ (x < nI st ∨ nI en ≤ x)) ∨ (E = nNS ∧ ¬ x < nI st ∧ x < nI en ∧ ∃ j, ix fo n x j ∧ (j = n ∨ (j < n ∧ ¬ fo j = x)))) ∧ at0 dC dI cI cZ ad (va_A (w0 cI cZ ad (n, sc, st, en, du, fo, fk, fv, fr, fc, fb, fp, ft)) sz) u t) (va_A (w0 cI cZ ad (n, sc, st, en, du, fo, fk, fv, fr, fc, fb, fp, ft)) sz)) 1 6 (va_A (w0 cI cZ ad (n, sc, st, en, du, fo, fk, fv, fr, fc, fb, fp, ft)) sz) := by
  refine vx_ofW (cc := cX0_indexOfRecord) (maxL := 3) (ret := (some .int)) (by decide) rfl ?_
  intro p e s m args below meth c s₁ B hml hex hv
  obtain ⟨rfl, hsz, hP, hK, hD0, hT⟩ := hv
  have hx := B.exec
  have hb := B.bytes
  have hr := B.returns
  have hts := atoms_spec (ws := wsX0_indexOfRecord) B.pre
  have hown : s.vm.findClass RX0 = some m.cls := findClass_of_methodNamed B.named
  have hlocks := B.notSynchronized
  have h00 : ∀ w ∈ wsX00, w.before _ s = true := fun w h => hts w (List.mem_cons_of_mem _ (List.mem_append_left _ (List.mem_append_left _ (List.mem_append_right _ h))))
  have L1 := hts (.fieldLink RX0 42 "SegmentLog" "startOffset" "I") (List.mem_of_getElem? (i := 5) rfl)
  have L2 := hts (.fieldLink RX0 45 "SegmentLog" "endOffset" "I") (List.mem_of_getElem? (i := 6) rfl)
  have L3 := hts (.fieldLink RX0 26 "SegmentLog" "recordCount" "I") (List.mem_of_getElem? (i := 7) rfl)
  have L4 := hts (.fieldLink RX0 9 "SegmentLog" "offsets" "[I") (List.mem_of_getElem? (i := 8) rfl)
  subst hsz
  have hD := hD0.self (sz := s.heap.size)
  generalize hAe : va_A (w0 cI cZ ad (n, sc, st, en, du, fo, fk, fv, fr, fc, fb, fp, ft)) s.heap.size = A at hD hT ⊢
  have hA : ∀ q : Nat, s.heap.size ≤ q → A q := fun q h => by rw [← hAe]; exact Or.inr h
  have hS : va_S A s.heap s.heap [] := va_S.rf
  have hno : ∀ (k : Nat), ∀ x ∈ c.exceptionTable.toList, covers x k = false := fun k x h => (hex x h).elim
  have hl := lv_entry ([.ref (ad 0), .int x]) (n := 3) (Nat.le_of_ble_eq_true rfl)
  rw [lg_entry_eq]
  generalize (lg_sl ([.ref (ad 0), .int x]) ++ List.replicate (3 - (lg_sl ([.ref (ad 0), .int x])).length) Slot.unset).toArray = ls at hl ⊢
  have hl : lv_has ls 3 [(0, .ref (ad 0)), (1, .int x)] := hl
  have b1 : ∀ w ∈ [Cond.declares (Bundle.initS nRT), Cond.declares (Bundle.initS nEX), Cond.declares (Bundle.initS Bundle.tN), Cond.castable nIO nIO, Cond.castable nNS nNS], w.before ([.ref (ad 0), .int x] : List Value).toArray s = true := vx_c (va_Nw.use rfl hT.2.2.1) (vx_c (va_Nw.use rfl hT.2.2.2.1) (vx_c (va_Nw.use rfl hT.2.2.2.2.1) (vx_c (va_Nw.use rfl hT.2.2.2.2.2.2.2.1) (vx_c (va_Nw.use rfl hT.2.2.2.2.2.2.2.2.1) vx_n))))
  have at1 := vx_hat (L := vx_atS RX0 106 nIO [nRT, nEX]) (fun w h => hts w (List.mem_cons_of_mem _ (List.mem_append_left _ (List.mem_append_right _ h)))) (by decide +kernel) b1
  have at2 := vx_hat (L := nse_at RX0 113) (fun w h => hts w (List.mem_cons_of_mem _ (List.mem_append_right _ h))) (by decide +kernel) b1
  refine lv_iload_n hx hb dX0_indexOfRecord_0 rfl (lv_at hl 1 rfl) ?_
  refine lv_aload_n hx hb dX0_indexOfRecord_1 rfl (lv_at hl 0 rfl) ?_
  refine va_get (D := (dC, dI)) (ci := 0) (v := .int (nI st)) (C := RX0) (T := TX0) (N := 13) hx hb h00 (fun _ h => h) hown hK hP 0 rfl rfl 10 (by decide) L1 (fun _ h9 => h9) rfl dX0_indexOfRecord_2 ?_
  refine lv_icmp_lt (tgt := 16) hx hb dX0_indexOfRecord_5 (by decide) (fun c1 => ?_) (fun c1 => ?_)
  · skip
    exact vx_throwS hx hb hlt (own := RX0) (cls := nIO) (names := [nRT, nEX]) (sa := sa) (A := A) hown (by decide +kernel) (by decide +kernel) (hts (.classLink RX0 102 "java/lang/IndexOutOfBoundsException") (List.mem_of_getElem? (i := 1) rfl)) (hts (.initialized "java/lang/IndexOutOfBoundsException") (List.mem_of_getElem? (i := 2) rfl)) hT.1 at1 (by decide +kernel) hT.2.2.2.2.2.1 hT.2.2.2.2.2.2.1 hS (hl.1.trans hml.symm) dX0_indexOfRecord_16 dX0_indexOfRecord_19 dX0_indexOfRecord_20 dX0_indexOfRecord_22 dX0_indexOfRecord_25 (hno _) (by decide) (Nat.le_of_ble_eq_true rfl) (by decide) (by decide) hlocks (fun t ha hz hk => ⟨(n, sc, st, en, du, fo, fk, fv, fr, fc, fb, fp, ft), rfl, ⟨Or.inl ⟨rfl, Or.inl c1⟩, hP.kept (fun k q h => hk q.1 ((hP k q h).lt)), va_K.moved ha hK, hD⟩, ⟨hz, fun q h1 _ => hk q h1⟩⟩) (fun _ h => by cases h) (by decide) (by decide)
  · skip
    refine lv_iload_n hx hb dX0_indexOfRecord_8 rfl (lv_at hl 1 rfl) ?_
    refine lv_aload_n hx hb dX0_indexOfRecord_9 rfl (lv_at hl 0 rfl) ?_
    refine va_get (D := (dC, dI)) (ci := 0) (v := .int (nI en)) (C := RX0) (T := TX0) (N := 13) hx hb h00 (fun _ h => h) hown hK hP 0 rfl rfl 11 (by decide) L2 (fun _ h9 => h9) rfl dX0_indexOfRecord_10 ?_
    refine lv_icmp_lt (tgt := 26) hx hb dX0_indexOfRecord_13 (by decide) (fun c2 => ?_) (fun c2 => ?_)
    · skip
      refine lv_aload_n hx hb dX0_indexOfRecord_26 rfl (lv_at hl 0 rfl) ?_
      refine lv_iload_n hx hb dX0_indexOfRecord_27 rfl (lv_at hl 1 rfl) ?_
      refine vp_callSi (W.runV (As := [.int x]) (rest := []) ⟨hx, hb, hml, hown, hts⟩ (c0_indexFrom l dC dI cI cZ ad n sc st en du fo fk fv fr fc fb fp ft x hn) (cwV 1 hts gX0_indexOfRecord_X0_indexFrom rfl rfl rfl (by decide +kernel) ⟨Nat.le_of_ble_eq_true rfl, Nat.le_of_ble_eq_true rfl⟩) ⟨bl_r, va_recv hK hP (ci := 0) (q0 := 0) rfl rfl, fun U hU hW => ⟨rfl, by rw [hU]; exact hP, va_K.moved hW.alike hK⟩⟩ rfl rfl hl.1 rfl (lv_room (Nat.le_of_ble_eq_true rfl)) dX0_indexOfRecord_28 ⟨by decide, by decide⟩) (fun r1 hq => ?_)
      obtain ⟨j, hj, rfl⟩ := hq
      have hjn := hj.1
      refine lv_istore_n (lv' := [(2, .int (nI j)), (0, .ref (ad 0)), (1, .int x)]) hx hb dX0_indexOfRecord_31 rfl hl (by decide) rfl (fun ls hl => ?_)
      refine lv_iload_n hx hb dX0_indexOfRecord_32 rfl (lv_at hl 0 rfl) ?_
      refine lv_aload_n hx hb dX0_indexOfRecord_33 rfl (lv_at hl 1 rfl) ?_
      refine va_get (D := (dC, dI)) (ci := 0) (v := .int (nI n)) (C := RX0) (T := TX0) (N := 13) hx hb h00 (fun _ h => h) hown hK hP 0 rfl rfl 5 (by decide) L3 (fun _ h9 => h9) rfl dX0_indexOfRecord_34 ?_
      refine lv_icmp_ge (tgt := 50) hx hb dX0_indexOfRecord_37 (by decide) (fun c3 => ?_) (fun c3 => ?_)
      · skip
        have hc := q_le (by omega) (by omega) c3
        exact vx_throwSX hx hb hlt (own := RX0) (cls := nNS) (Y9 := nRT) (r9 := [nEX]) (ix := 13) (rx := prog_10_method_4_code) (sa := sb) (A := A) (by decide +kernel) (by decide +kernel) (by decide +kernel) (by decide +kernel) hown (by decide +kernel) (by decide +kernel) (hts (.classLink RX0 109 "java/util/NoSuchElementException") (List.mem_of_getElem? (i := 3) rfl)) (hts (.initialized "java/util/NoSuchElementException") (List.mem_of_getElem? (i := 4) rfl)) hT.2.1 at2 (by decide +kernel) hT.2.2.2.2.2.1 hT.2.2.2.2.2.2.1 hS (hl.1.trans hml.symm) dX0_indexOfRecord_50 dX0_indexOfRecord_53 dX0_indexOfRecord_54 dX0_indexOfRecord_56 dX0_indexOfRecord_59 (hno _) (by decide) (Nat.le_of_ble_eq_true rfl) (by decide) (by decide) hlocks (fun t ha hz hk => ⟨(n, sc, st, en, du, fo, fk, fv, fr, fc, fb, fp, ft), rfl, ⟨Or.inr ⟨rfl, c1, c2, ⟨j, hj, Or.inl (by omega)⟩⟩, hP.kept (fun k q h => hk q.1 ((hP k q h).lt)), va_K.moved ha hK, hD⟩, ⟨hz, fun q h1 _ => hk q h1⟩⟩) (fun _ h => by cases h) (by decide) (by decide)
      · skip
        have hc := q_nle (by omega) (by omega) c3
        refine lv_aload_n hx hb dX0_indexOfRecord_40 rfl (lv_at hl 1 rfl) ?_
        refine va_get (D := (dC, dI)) (ci := 0) (v := .ref (ad 1)) (C := RX0) (T := TX0) (N := 13) hx hb h00 (fun _ h => h) hown hK hP 0 rfl rfl 0 (by decide) L4 (fun _ h9 => h9) rfl dX0_indexOfRecord_41 ?_
        refine lv_iload_n hx hb dX0_indexOfRecord_44 rfl (lv_at hl 0 rfl) ?_
        refine qa_iald (i := j) hx hb hK hP 1 0 rfl rfl (by omega) (by decide) dX0_indexOfRecord_45 ?_
        refine lv_iload_n hx hb dX0_indexOfRecord_46 rfl (lv_at hl 2 rfl) ?_
        refine lv_icmp_eq (tgt := 60) hx hb dX0_indexOfRecord_47 (by decide) (fun c4 => ?_) (fun c4 => ?_)
        · skip
          refine lv_iload_n hx hb dX0_indexOfRecord_60 rfl (lv_at hl 0 rfl) ?_
          refine vx_ret ?_
          refine W.widen (k := 1) (n := 6) (by omega) (by omega) ?_
          exact W.iret (v := nI j) hx hb hr (fun t ht hW => ⟨⟨_, (n, sc, st, en, du, fo, fk, fv, fr, fc, fb, fp, ft), rfl, ⟨rfl, ⟨j, hc, hj, c4, rfl⟩⟩, by rw [ht]; exact hP, va_K.moved hW.alike hK, hD⟩, hS.F ht⟩) hS.2.2 dX0_indexOfRecord_61
        · skip
          exact vx_throwSX hx hb hlt (own := RX0) (cls := nNS) (Y9 := nRT) (r9 := [nEX]) (ix := 13) (rx := prog_10_method_4_code) (sa := sb) (A := A) (by decide +kernel) (by decide +kernel) (by decide +kernel) (by decide +kernel) hown (by decide +kernel) (by decide +kernel) (hts (.classLink RX0 109 "java/util/NoSuchElementException") (List.mem_of_getElem? (i := 3) rfl)) (hts (.initialized "java/util/NoSuchElementException") (List.mem_of_getElem? (i := 4) rfl)) hT.2.1 at2 (by decide +kernel) hT.2.2.2.2.2.1 hT.2.2.2.2.2.2.1 hS (hl.1.trans hml.symm) dX0_indexOfRecord_50 dX0_indexOfRecord_53 dX0_indexOfRecord_54 dX0_indexOfRecord_56 dX0_indexOfRecord_59 (hno _) (by decide) (Nat.le_of_ble_eq_true rfl) (by decide) (by decide) hlocks (fun t ha hz hk => ⟨(n, sc, st, en, du, fo, fk, fv, fr, fc, fb, fp, ft), rfl, ⟨Or.inr ⟨rfl, c1, c2, ⟨j, hj, Or.inr ⟨hc, c4⟩⟩⟩, hP.kept (fun k q h => hk q.1 ((hP k q h).lt)), va_K.moved ha hK, hD⟩, ⟨hz, fun q h1 _ => hk q h1⟩⟩) (fun _ h => by cases h) (by decide) (by decide)
    · skip
      exact vx_throwS hx hb hlt (own := RX0) (cls := nIO) (names := [nRT, nEX]) (sa := sa) (A := A) hown (by decide +kernel) (by decide +kernel) (hts (.classLink RX0 102 "java/lang/IndexOutOfBoundsException") (List.mem_of_getElem? (i := 1) rfl)) (hts (.initialized "java/lang/IndexOutOfBoundsException") (List.mem_of_getElem? (i := 2) rfl)) hT.1 at1 (by decide +kernel) hT.2.2.2.2.2.1 hT.2.2.2.2.2.2.1 hS (hl.1.trans hml.symm) dX0_indexOfRecord_16 dX0_indexOfRecord_19 dX0_indexOfRecord_20 dX0_indexOfRecord_22 dX0_indexOfRecord_25 (hno _) (by decide) (Nat.le_of_ble_eq_true rfl) (by decide) (by decide) hlocks (fun t ha hz hk => ⟨(n, sc, st, en, du, fo, fk, fv, fr, fc, fb, fp, ft), rfl, ⟨Or.inl ⟨rfl, Or.inr (Int32.not_lt.mp c2)⟩, hP.kept (fun k q h => hk q.1 ((hP k q h).lt)), va_K.moved ha hK, hD⟩, ⟨hz, fun q h1 _ => hk q h1⟩⟩) (fun _ h => by cases h) (by decide) (by decide)
set_option maxHeartbeats 4000000 in
set_option maxRecDepth 100000 in
theorem c0_value (l : Launch) (hlt : l.stackTraces = false) (dC : Nat → ClassId) (dI : Nat → Nat → Nat) (cI cZ : ClassId) (ad : Nat → Nat) (sz sa sb : Nat) (n sc st en du : Nat) (fo fk fv fr fc fb fp ft : Nat → Int32) (x : Int32) (hn : n ≤ 60) : vx_Met l yX0_value wsX0_value ({ frames := 7, cells := 1, slots := 6, locals := 130 } : Room) (va_Pc [.ref (ad 0), .int x] (pr_x dC dI cI cZ (w0 cI cZ ad (n, sc, st, en, du, fo, fk, fv, fr, fc, fb, fp, ft)) sz sa sb)) (va_Qi (fun (r : Int32) (u : C0) => u = (n, sc, st, en, du, fo, fk, fv, fr, fc, fb, fp, ft) ∧ (∃ j, j < n ∧ ix fo n x j ∧ fo j = x ∧ r = fv j)) (at0 dC dI cI cZ ad (va_A (w0 cI cZ ad (n, sc, st, en, du, fo, fk, fv, fr, fc, fb, fp, ft)) sz)) (va_A (w0 cI cZ ad (n, sc, st, en, du, fo, fk, fv, fr, fc, fb, fp, ft)) sz)) (vx_X (fun u : C0 => u = (n, sc, st, en, du, fo, fk, fv, fr, fc, fb, fp, ft)) (fun E u t => ((E = nIO ∧ (x < nI st ∨ nI en ≤ x)) ∨ (E = nNS ∧ ¬ x < nI st ∧ x < nI en ∧ ∃ j, ix fo n x j ∧ (j = n ∨ (j < n ∧ ¬ fo j = x)))) ∧ at0 dC dI cI cZ ad (va_A (w0 cI cZ ad (n, sc, st, en, du, fo, fk, fv, fr, fc, fb, fp, ft)) sz) u t) (va_A (w0 cI cZ ad (n, sc, st, en, du, fo, fk, fv, fr, fc, fb, fp, ft)) sz)) 1 6 (va_A (w0 cI cZ ad (n, sc, st, en, du, fo, fk, fv, fr, fc, fb, fp, ft)) sz) := by
  refine vx_ofW (cc := cX0_value) (maxL := 2) (ret := (some .int)) (by decide) rfl ?_
  intro p e s m args below meth c s₁ B hml hex hv
  obtain ⟨rfl, hsz, hP, hK, hD0, hT⟩ := hv
  have hx := B.exec
  have hb := B.bytes
  have hr := B.returns
  have hts := atoms_spec (ws := wsX0_value) B.pre
  have hown : s.vm.findClass RX0 = some m.cls := findClass_of_methodNamed B.named
  have hlocks := B.notSynchronized
  have h00 : ∀ w ∈ wsX00, w.before _ s = true := fun w h => hts w (List.mem_cons_of_mem _ (List.mem_append_left _ (List.mem_append_left _ (List.mem_append_right _ h))))
  have L1 := hts (.fieldLink RX0 16 "SegmentLog" "values" "[I") (List.mem_of_getElem? (i := 1) rfl)
  subst hsz
  have hD := hD0.self (sz := s.heap.size)
  generalize hAe : va_A (w0 cI cZ ad (n, sc, st, en, du, fo, fk, fv, fr, fc, fb, fp, ft)) s.heap.size = A at hD hT ⊢
  have hA : ∀ q : Nat, s.heap.size ≤ q → A q := fun q h => by rw [← hAe]; exact Or.inr h
  have hS : va_S A s.heap s.heap [] := va_S.rf
  have hno : ∀ (k : Nat), ∀ x ∈ c.exceptionTable.toList, covers x k = false := fun k x h => (hex x h).elim
  have hl := lv_entry ([.ref (ad 0), .int x]) (n := 2) (Nat.le_of_ble_eq_true rfl)
  rw [lg_entry_eq]
  generalize (lg_sl ([.ref (ad 0), .int x]) ++ List.replicate (2 - (lg_sl ([.ref (ad 0), .int x])).length) Slot.unset).toArray = ls at hl ⊢
  have hl : lv_has ls 2 [(0, .ref (ad 0)), (1, .int x)] := hl
  refine lv_aload_n hx hb dX0_value_0 rfl (lv_at hl 0 rfl) ?_
  refine va_get (D := (dC, dI)) (ci := 0) (v := .ref (ad 3)) (C := RX0) (T := TX0) (N := 13) hx hb h00 (fun _ h => h) hown hK hP 0 rfl rfl 2 (by decide) L1 (fun _ h9 => h9) rfl dX0_value_1 ?_
  refine lv_aload_n hx hb dX0_value_4 rfl (lv_at hl 0 rfl) ?_
  refine lv_iload_n hx hb dX0_value_5 rfl (lv_at hl 1 rfl) ?_
  have hFc := va_free (wc := w0 cI cZ ad (n, sc, st, en, du, fo, fk, fv, fr, fc, fb, fp, ft)) hD hS hA [0, 1, 2, 3, 4, 5, 6, 7, 8] rfl
  refine vx_calli (vx_runV (As := [.int x]) (rest := [.ref (ad 3)]) ⟨hx, hb, hml, hown, hts⟩ (c0_indexOfRecord l hlt dC dI cI cZ ad s.heap.size sa sb n sc st en du fo fk fv fr fc fb fp ft x hn) (cwV 1 hts gX0_value_X0_indexOfRecord rfl rfl rfl (by decide +kernel) ⟨Nat.le_of_ble_eq_true rfl, Nat.le_of_ble_eq_true rfl⟩) ⟨bl_x, va_recv hK hP (ci := 0) (q0 := 0) rfl rfl, fun U hU hW => ⟨rfl, by rw [hU], by rw [hU]; exact hP, va_K.moved hW.alike hK, hD.weaken (fun _ _ _ _ => trivial), tp_go hT hW (fun a _ _ => by rw [hU]) hFc⟩⟩ rfl rfl hl.1 rfl (lv_room (Nat.le_of_ble_eq_true rfl)) dX0_value_6 ⟨by decide, by decide⟩) hS (fun q _ h => hFc q h) hFc (fun q _ h => hFc q h) (fun E ce q9 u t H1 locs ht hvm hpx hbx hz1 hk1 hS hce hcv hcl => ?_) (fun r1 u t H1 locs ht hvm hq hB hz1 hk1 hS => ?_)
  · obtain ⟨hbc, hP1, hK1, hD1⟩ := hbx
    subst hpx
    rw [ht] at hP1
    have hD1 := hD1.weaken (B := A) (fun k q _ h => hFc q.1 h)
    exact vx_out (hno _) hlocks hce hcv hcl (fun t ht ha => ⟨(n, sc, st, en, du, fo, fk, fv, fr, fc, fb, fp, ft), rfl, ⟨hbc, by rw [ht]; exact hP1, va_K.moved ha hK, hD1⟩, hS.F ht⟩) hS.2.2 (by decide) (by decide)
  · obtain ⟨hP1, hK1, hD1⟩ := hB
    obtain ⟨rfl, j, hj1, hj2, hj3, rfl⟩ := hq
    rw [ht] at hP1
    have hD1 := hD1.weaken (B := A) (fun k q _ h => hFc q.1 h)
    generalize H1 = H at hP1 hS ⊢
    have hP := hP1
    have hD := hD1
    refine qa_iald (i := j) hx hb hK hP 3 0 rfl rfl (by omega) (by decide) dX0_value_9 ?_
    refine vx_ret ?_
    refine W.widen (k := 1) (n := 6) (by omega) (by omega) ?_
    exact W.iret (v := fv j) hx hb hr (fun t ht hW => ⟨⟨_, (n, sc, st, en, du, fo, fk, fv, fr, fc, fb, fp, ft), rfl, ⟨rfl, ⟨j, hj1, hj2, hj3, rfl⟩⟩, by rw [ht]; exact hP, va_K.moved hW.alike hK, hD⟩, hS.F ht⟩) hS.2.2 dX0_value_10
set_option maxHeartbeats 4000000 in
set_option maxRecDepth 100000 in
theorem c0_key (l : Launch) (hlt : l.stackTraces = false) (dC : Nat → ClassId) (dI : Nat → Nat → Nat) (cI cZ : ClassId) (ad : Nat → Nat) (sz sa sb : Nat) (n sc st en du : Nat) (fo fk fv fr fc fb fp ft : Nat → Int32) (x : Int32) (hn : n ≤ 60) : vx_Met l yX0_key wsX0_key ({ frames := 7, cells := 1, slots := 6, locals := 130 } : Room) (va_Pc [.ref (ad 0), .int x] (pr_x dC dI cI cZ (w0 cI cZ ad (n, sc, st, en, du, fo, fk, fv, fr, fc, fb, fp, ft)) sz sa sb)) (va_Qi (fun (r : Int32) (u : C0) => u = (n, sc, st, en, du, fo, fk, fv, fr, fc, fb, fp, ft) ∧ (∃ j, j < n ∧ ix fo n x j ∧ fo j = x ∧ ((¬ fr j = 0 ∧ r = fk j + nI 16) ∨ (fr j = 0 ∧ r = fk j)))) (at0 dC dI cI cZ ad (va_A (w0 cI cZ ad (n, sc, st, en, du, fo, fk, fv, fr, fc, fb, fp, ft)) sz)) (va_A (w0 cI cZ ad (n, sc, st, en, du, fo, fk, fv, fr, fc, fb, fp, ft)) sz)) (vx_X (fun u : C0 => u = (n, sc, st, en, du, fo, fk, fv, fr, fc, fb, fp, ft)) (fun E u t => ((E = nIO ∧ (x < nI st ∨ nI en ≤ x)) ∨ (E = nNS ∧ ¬ x < nI st ∧ x < nI en ∧ ∃ j, ix fo n x j ∧ (j = n ∨ (j < n ∧ ¬ fo j = x)))) ∧ at0 dC dI cI cZ ad (va_A (w0 cI cZ ad (n, sc, st, en, du, fo, fk, fv, fr, fc, fb, fp, ft)) sz) u t) (va_A (w0 cI cZ ad (n, sc, st, en, du, fo, fk, fv, fr, fc, fb, fp, ft)) sz)) 1 6 (va_A (w0 cI cZ ad (n, sc, st, en, du, fo, fk, fv, fr, fc, fb, fp, ft)) sz) := by
  refine vx_ofW (cc := cX0_key) (maxL := 3) (ret := (some .int)) (by decide) rfl ?_
  intro p e s m args below meth c s₁ B hml hex hv
  obtain ⟨rfl, hsz, hP, hK, hD0, hT⟩ := hv
  have hx := B.exec
  have hb := B.bytes
  have hr := B.returns
  have hts := atoms_spec (ws := wsX0_key) B.pre
  have hown : s.vm.findClass RX0 = some m.cls := findClass_of_methodNamed B.named
  have hlocks := B.notSynchronized
  have h00 : ∀ w ∈ wsX00, w.before _ s = true := fun w h => hts w (List.mem_cons_of_mem _ (List.mem_append_left _ (List.mem_append_left _ (List.mem_append_right _ h))))
  have L1 := hts (.fieldLink RX0 19 "SegmentLog" "removals" "[Z") (List.mem_of_getElem? (i := 1) rfl)
  have L2 := hts (.fieldLink RX0 13 "SegmentLog" "keys" "[I") (List.mem_of_getElem? (i := 2) rfl)
  subst hsz
  have hD := hD0.self (sz := s.heap.size)
  generalize hAe : va_A (w0 cI cZ ad (n, sc, st, en, du, fo, fk, fv, fr, fc, fb, fp, ft)) s.heap.size = A at hD hT ⊢
  have hA : ∀ q : Nat, s.heap.size ≤ q → A q := fun q h => by rw [← hAe]; exact Or.inr h
  have hS : va_S A s.heap s.heap [] := va_S.rf
  have hno : ∀ (k : Nat), ∀ x ∈ c.exceptionTable.toList, covers x k = false := fun k x h => (hex x h).elim
  have hl := lv_entry ([.ref (ad 0), .int x]) (n := 3) (Nat.le_of_ble_eq_true rfl)
  rw [lg_entry_eq]
  generalize (lg_sl ([.ref (ad 0), .int x]) ++ List.replicate (3 - (lg_sl ([.ref (ad 0), .int x])).length) Slot.unset).toArray = ls at hl ⊢
  have hl : lv_has ls 3 [(0, .ref (ad 0)), (1, .int x)] := hl
  refine lv_aload_n hx hb dX0_key_0 rfl (lv_at hl 0 rfl) ?_
  refine lv_iload_n hx hb dX0_key_1 rfl (lv_at hl 1 rfl) ?_
  have hFc := va_free (wc := w0 cI cZ ad (n, sc, st, en, du, fo, fk, fv, fr, fc, fb, fp, ft)) hD hS hA [0, 1, 2, 3, 4, 5, 6, 7, 8] rfl
  refine vx_calli (vx_runV (As := [.int x]) (rest := []) ⟨hx, hb, hml, hown, hts⟩ (c0_indexOfRecord l hlt dC dI cI cZ ad s.heap.size sa sb n sc st en du fo fk fv fr fc fb fp ft x hn) (cwV 1 hts gX0_key_X0_indexOfRecord rfl rfl rfl (by decide +kernel) ⟨Nat.le_of_ble_eq_true rfl, Nat.le_of_ble_eq_true rfl⟩) ⟨bl_x, va_recv hK hP (ci := 0) (q0 := 0) rfl rfl, fun U hU hW => ⟨rfl, by rw [hU], by rw [hU]; exact hP, va_K.moved hW.alike hK, hD.weaken (fun _ _ _ _ => trivial), tp_go hT hW (fun a _ _ => by rw [hU]) hFc⟩⟩ rfl rfl hl.1 rfl (lv_room (Nat.le_of_ble_eq_true rfl)) dX0_key_2 ⟨by decide, by decide⟩) hS (fun q _ h => hFc q h) hFc (fun q _ h => hFc q h) (fun E ce q9 u t H1 locs ht hvm hpx hbx hz1 hk1 hS hce hcv hcl => ?_) (fun r1 u t H1 locs ht hvm hq hB hz1 hk1 hS => ?_)
  · obtain ⟨hbc, hP1, hK1, hD1⟩ := hbx
    subst hpx
    rw [ht] at hP1
    have hD1 := hD1.weaken (B := A) (fun k q _ h => hFc q.1 h)
    exact vx_out (hno _) hlocks hce hcv hcl (fun t ht ha => ⟨(n, sc, st, en, du, fo, fk, fv, fr, fc, fb, fp, ft), rfl, ⟨hbc, by rw [ht]; exact hP1, va_K.moved ha hK, hD1⟩, hS.F ht⟩) hS.2.2 (by decide) (by decide)
  · obtain ⟨hP1, hK1, hD1⟩ := hB
    obtain ⟨rfl, j, hj1, hj2, hj3, rfl⟩ := hq
    rw [ht] at hP1
    have hD1 := hD1.weaken (B := A) (fun k q _ h => hFc q.1 h)
    generalize H1 = H at hP1 hS ⊢
    have hP := hP1
    have hD := hD1
    refine lv_istore_n (lv' := [(2, .int (nI j)), (0, .ref (ad 0)), (1, .int x)]) hx hb dX0_key_5 rfl hl (by decide) rfl (fun ls hl => ?_)
    refine lv_aload_n hx hb dX0_key_6 rfl (lv_at hl 1 rfl) ?_
    refine va_get (D := (dC, dI)) (ci := 0) (v := .ref (ad 4)) (C := RX0) (T := TX0) (N := 13) hx hb h00 (fun _ h => h) hown hK hP 0 rfl rfl 3 (by decide) L1 (fun _ h9 => h9) rfl dX0_key_7 ?_
    refine lv_iload_n hx hb dX0_key_10 rfl (lv_at hl 0 rfl) ?_
    refine qa_zald (i := j) hx hb hK hP 4 1 rfl rfl (by omega) (by decide) dX0_key_11 ?_
    refine lv_if_eq (tgt := 27) hx hb dX0_key_12 (by decide) (fun c1 => ?_) (fun c1 => ?_)
    · skip
      refine lv_aload_n hx hb dX0_key_27 rfl (lv_at hl 1 rfl) ?_
      refine va_get (D := (dC, dI)) (ci := 0) (v := .ref (ad 2)) (C := RX0) (T := TX0) (N := 13) hx hb h00 (fun _ h => h) hown hK hP 0 rfl rfl 1 (by decide) L2 (fun _ h9 => h9) rfl dX0_key_28 ?_
      refine lv_iload_n hx hb dX0_key_31 rfl (lv_at hl 0 rfl) ?_
      refine qa_iald (i := j) hx hb hK hP 2 0 rfl rfl (by omega) (by decide) dX0_key_32 ?_
      refine vx_ret ?_
      refine W.widen (k := 1) (n := 6) (by omega) (by omega) ?_
      exact W.iret (v := fk j) hx hb hr (fun t ht hW => ⟨⟨_, (n, sc, st, en, du, fo, fk, fv, fr, fc, fb, fp, ft), rfl, ⟨rfl, ⟨j, hj1, hj2, hj3, Or.inr ⟨c1, rfl⟩⟩⟩, by rw [ht]; exact hP, va_K.moved hW.alike hK, hD⟩, hS.F ht⟩) hS.2.2 dX0_key_33
    · skip
      refine lv_aload_n hx hb dX0_key_15 rfl (lv_at hl 1 rfl) ?_
      refine va_get (D := (dC, dI)) (ci := 0) (v := .ref (ad 2)) (C := RX0) (T := TX0) (N := 13) hx hb h00 (fun _ h => h) hown hK hP 0 rfl rfl 1 (by decide) L2 (fun _ h9 => h9) rfl dX0_key_16 ?_
      refine lv_iload_n hx hb dX0_key_19 rfl (lv_at hl 0 rfl) ?_
      refine qa_iald (i := j) hx hb hK hP 2 0 rfl rfl (by omega) (by decide) dX0_key_20 ?_
      refine lv_bipush (v := nI 16) hx hb dX0_key_21 (by decide) ?_
      refine lv_iadd hx hb dX0_key_23 ?_
      refine lv_goto (tgt := 33) hx hb dX0_key_24 (by decide) ?_
      refine vx_ret ?_
      refine W.widen (k := 1) (n := 6) (by omega) (by omega) ?_
      exact W.iret (v := fk j + nI 16) hx hb hr (fun t ht hW => ⟨⟨_, (n, sc, st, en, du, fo, fk, fv, fr, fc, fb, fp, ft), rfl, ⟨rfl, ⟨j, hj1, hj2, hj3, Or.inl ⟨c1, rfl⟩⟩⟩, by rw [ht]; exact hP, va_K.moved hW.alike hK, hD⟩, hS.F ht⟩) hS.2.2 dX0_key_33
