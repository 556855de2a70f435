/-- which records a cleaning leaves: by the row of the latest places -/
def sv (K : Nat → Nat) (ft fr fc : Nat → Int32) (q : Nat) : Bool := decide (ft (K q) = nI q) && (decide (fr q = 0) || decide (fc q = 0))
theorem sv_t {K : Nat → Nat} {ft fr fc : Nat → Int32} {q : Nat} : sv K ft fr fc q = true ↔ (ft (K q) = nI q ∧ (fr q = 0 ∨ fc q = 0)) := by
  simp [sv]
def kp (b : Nat → Bool) (i : Nat) : List Nat := (List.range i).filter b
theorem kp_le (b : Nat → Bool) (i : Nat) : (kp b i).length ≤ i := Nat.le_trans (List.length_filter_le _ _) (by simp)
theorem kp_t {b : Nat → Bool} {i : Nat} (h : b i = true) : kp b (i + 1) = kp b i ++ [i] := by simp [kp, List.range_succ, h]
theorem kp_f {b : Nat → Bool} {i : Nat} (h : b i = false) : kp b (i + 1) = kp b i := by simp [kp, List.range_succ, h]
/-- the latest place of each key among the first i records -/
def lat (K : Nat → Nat) (ft : Nat → Int32) (i : Nat) : Prop := ∀ q, q < i → ∃ z, q ≤ z ∧ z < i ∧ K z = K q ∧ ft (K q) = nI z
theorem lat_s {K : Nat → Nat} {ft : Nat → Int32} {i : Nat} (h : lat K ft i) : lat K (upd ft (K i) (nI i)) (i + 1) := fun q hq => by
  by_cases e : K q = K i
  · exact ⟨i, by omega, by omega, e.symm, by rw [e, pk_us]⟩
  · have hqi : q < i := by
      rcases Nat.lt_or_ge q i with h | h
      · exact h
      · have : q = i := by omega
        subst this; exact absurd rfl e
    obtain ⟨z, h1, h2, h3, h4⟩ := h q hqi
    exact ⟨z, h1, by omega, h3, by rw [pk_un e]; exact h4⟩
/-- a row while the cleaner goes over it: what was left stands ahead, what is still to come stands as it was -/
def cv (b : Nat → Bool) (f h g : Nat → Int32) (i : Nat) : Prop := (∀ z q, (kp b i)[z]? = some q → g z = h q) ∧ ∀ z, i ≤ z → g z = f z
theorem cv_0 {b : Nat → Bool} {f h : Nat → Int32} : cv b f h f 0 := ⟨fun z q hz => by simp [kp] at hz, fun _ _ => rfl⟩
theorem cv_f {b : Nat → Bool} {f h g : Nat → Int32} {i : Nat} (hb : b i = false) (c : cv b f h g i) : cv b f h g (i + 1) := ⟨fun z q hz => c.1 z q (by rw [kp_f hb] at hz; exact hz), fun z hz => c.2 z (by omega)⟩
theorem cv_t {b : Nat → Bool} {f h g : Nat → Int32} {i : Nat} {v : Int32} (hb : b i = true) (c : cv b f h g i) (hv : v = h i) : cv b f h (upd g (kp b i).length v) (i + 1) := by
  have hl := kp_le b i
  refine ⟨fun z q hz => ?_, fun z hz => ?_⟩
  · rw [kp_t hb] at hz
    rcases Nat.lt_or_ge z (kp b i).length with h1 | h1
    · rw [List.getElem?_append_left h1] at hz
      rw [pk_un (by omega)]; exact c.1 z q hz
    · rw [List.getElem?_append_right h1] at hz
      have h2 : z - (kp b i).length = 0 := by
        have := (List.getElem?_eq_some_iff.mp hz).1
        simp at this; omega
      rw [h2] at hz
      have h3 : i = q := by simpa using hz
      have h4 : z = (kp b i).length := by omega
      subst h3; subst h4; rw [pk_us]; exact hv
  · rw [pk_un (by omega)]; exact c.2 z (by omega)
theorem cv_u {b : Nat → Bool} {f h g : Nat → Int32} {i k : Nat} {x v : Int32} (c : cv b f h (upd g k v) i) : cv b f h (upd (upd g k x) k v) i := by
  have e : upd (upd g k x) k v = upd g k v := by
    funext z
    by_cases hz : z = k
    · subst hz; rw [pk_us, pk_us]
    · rw [pk_un hz, pk_un hz, pk_un hz]
  rw [e]; exact c
set_option maxHeartbeats 4000000 in
set_option maxRecDepth 100000 in
theorem c0_compact (l : Launch) (dC : Nat → ClassId) (dI : Nat → Nat → Nat) (cI cZ : ClassId) (ad : Nat → Nat) (sz : Nat) (n sc st en du : Nat) (fo fk fv fr fc fb fp ft : Nat → Int32) (K : Nat → Nat) (hs : 1 ≤ sc) (hs2 : sc ≤ 513) (hn : n ≤ 60) (hky : ∀ i, i < n → fk i = nI (K i) ∧ K i < 16) (h1 : nb fr n) (h2 : nb fc n) : Met l yX0_compact wsX0_compact ({ frames := 2, cells := 0, slots := 0, locals := 60 } : Room) (va_Pc [.ref (ad 0)] (pr_w dC dI cI cZ (w0 cI cZ ad (n, sc, st, en, du, fo, fk, fv, fr, fc, fb, fp, ft)) sz)) (va_Qi (fun (r : Int32) (u : C0) => ∃ (k j : Nat) (gt go gk gv gr gc ho hk hv hr hc : Nat → Int32), k < sc ∧ (∀ i, k < i → i < sc → ¬ fb i ≤ nI du) ∧ (0 < k → fb k ≤ nI du) ∧ ix fo n (fb k) j ∧ lat K gt j ∧ cv (sv K gt fr fc) fo fo go j ∧ cv (sv K gt fr fc) fk fk gk j ∧ cv (sv K gt fr fc) fv fv gv j ∧ cv (sv K gt fr fc) fr fr gr j ∧ cv (sv K gt fr fc) fc (fun _ => nI 1) gc j ∧ dr go ho (kp (sv K gt fr fc) j).length (j - (kp (sv K gt fr fc) j).length) n ∧ dr gk hk (kp (sv K gt fr fc) j).length (j - (kp (sv K gt fr fc) j).length) n ∧ dr gv hv (kp (sv K gt fr fc) j).length (j - (kp (sv K gt fr fc) j).length) n ∧ dr gr hr (kp (sv K gt fr fc) j).length (j - (kp (sv K gt fr fc) j).length) n ∧ dr gc hc (kp (sv K gt fr fc) j).length (j - (kp (sv K gt fr fc) j).length) n ∧ r = nI (j - (kp (sv K gt fr fc) j).length) ∧ u = (n - (j - (kp (sv K gt fr fc) j).length), sc, st, en, du, ho, hk, hv, hr, hc, fb, fp, gt)) (at0 dC dI cI cZ ad (va_A (w0 cI cZ ad (n, sc, st, en, du, fo, fk, fv, fr, fc, fb, fp, ft)) sz)) (va_A (w0 cI cZ ad (n, sc, st, en, du, fo, fk, fv, fr, fc, fb, fp, ft)) sz)) 0 0 (va_A (w0 cI cZ ad (n, sc, st, en, du, fo, fk, fv, fr, fc, fb, fp, ft)) sz) := by
  refine Met.ofW (cc := cX0_compact) (maxL := 4) (ret := (some .int)) (by decide) rfl ?_
  intro p e s m args below meth c s₁ B hml hv
  obtain ⟨rfl, hsz, hP, hK, hD0⟩ := hv
  have hx := B.exec
  have hb := B.bytes
  have hr := B.returns
  have hts := atoms_spec (ws := wsX0_compact) B.pre
  have hown : s.vm.findClass RX0 = some m.cls := findClass_of_methodNamed B.named
  have hlocks := B.notSynchronized
  have h00 : ∀ w ∈ wsX00, w.before _ s = true := fun w h => hts w (List.mem_cons_of_mem _ (List.mem_append_right _ h))
  have L1 := hts (.fieldLink RX0 39 "SegmentLog" "latestIndex" "[I") (List.mem_of_getElem? (i := 1) rfl)
  have L2 := hts (.fieldLink RX0 13 "SegmentLog" "keys" "[I") (List.mem_of_getElem? (i := 2) rfl)
  have L3 := hts (.fieldLink RX0 23 "SegmentLog" "cleaned" "[Z") (List.mem_of_getElem? (i := 3) rfl)
  subst hsz
  have hD := hD0.self (sz := s.heap.size)
  generalize hAe : va_A (w0 cI cZ ad (n, sc, st, en, du, fo, fk, fv, fr, fc, fb, fp, ft)) s.heap.size = A at hD ⊢
  have hA : ∀ q : Nat, s.heap.size ≤ q → A q := fun q h => by rw [← hAe]; exact Or.inr h
  have hS : va_S A s.heap s.heap [] := va_S.rf
  have hP : va_P (dC, dI) vwCl (w0 cI cZ ad (n, sc, st, en, du, fo, fk, fv, fr, fc, fb, fp, ft)) s.heap := hP
  have hl := lv_entry ([.ref (ad 0)]) (n := 4) (Nat.le_of_ble_eq_true rfl)
  rw [lg_entry_eq]
  generalize (lg_sl ([.ref (ad 0)]) ++ List.replicate (4 - (lg_sl ([.ref (ad 0)])).length) Slot.unset).toArray = ls at hl ⊢
  have hl : lv_has ls 4 [(0, .ref (ad 0))] := hl
  refine lv_aload_n hx hb dX0_compact_0 rfl (lv_at hl 0 rfl) ?_
  refine lv_aload_n hx hb dX0_compact_1 rfl (lv_at hl 0 rfl) ?_
  refine vp_callSi (W.runV (As := []) (rest := [.ref (ad 0)]) ⟨hx, hb, hml, hown, hts⟩ (c0_point l dC dI cI cZ ad n sc st en du fo fk fv fr fc fb fp ft  hs hs2) (cwV 0 hts gX0_compact_X0_point rfl rfl rfl (by decide +kernel) ⟨Nat.le_of_ble_eq_true rfl, Nat.le_of_ble_eq_true rfl⟩) ⟨bl_r, va_recv hK hP (ci := 0) (q0 := 0) rfl rfl, fun U hU hW => ⟨rfl, by rw [hU]; exact hP, va_K.moved hW.alike hK⟩⟩ rfl rfl hl.1 rfl (lv_room (Nat.le_of_ble_eq_true rfl)) dX0_compact_2 ⟨by decide, by decide⟩) (fun r1 hq => ?_)
  obtain ⟨k, hp1, rfl, hp2, hp3⟩ := hq
  refine vp_callSi (W.runV (As := [.int (fb k)]) (rest := []) ⟨hx, hb, hml, hown, hts⟩ (c0_indexFrom l dC dI cI cZ ad n sc st en du fo fk fv fr fc fb fp ft (fb k) hn) (cwV 1 hts gX0_compact_X0_indexFrom rfl rfl rfl (by decide +kernel) ⟨Nat.le_of_ble_eq_true rfl, Nat.le_of_ble_eq_true rfl⟩) ⟨bl_r, va_recv hK hP (ci := 0) (q0 := 0) rfl rfl, fun U hU hW => ⟨rfl, by rw [hU]; exact hP, va_K.moved hW.alike hK⟩⟩ rfl rfl hl.1 rfl (lv_room (Nat.le_of_ble_eq_true rfl)) dX0_compact_5 ⟨by decide, by decide⟩) (fun r2 hq => ?_)
  obtain ⟨j, hj, rfl⟩ := hq
  have hjn := hj.1
  refine lv_istore_n (lv' := [(1, .int (nI j)), (0, .ref (ad 0))]) hx hb dX0_compact_8 rfl hl (by decide) rfl (fun ls hl => ?_)
  refine lv_iconst (v := nI 0) hx hb dX0_compact_9 (by decide) ?_
  refine lv_istore_n (lv' := [(2, .int (nI 0)), (1, .int (nI j)), (0, .ref (ad 0))]) hx hb dX0_compact_10 rfl hl (by decide) rfl (fun ls hl => ?_)
  have stage2 : ∀ (gt : Nat → Int32) (H : Heap) (locs : List Loc) (ls : Array Slot), lat K gt j → va_P (dC, dI) vwCl (w0 cI cZ ad (n, sc, st, en, du, fo, fk, fv, fr, fc, fb, fp, gt)) H → va_D A (w0 cI cZ ad (n, sc, st, en, du, fo, fk, fv, fr, fc, fb, fp, gt)) → va_S A s.heap H locs → lv_has ls 4 [(1, .int (nI j)), (0, .ref (ad 0))] → W p l e (headSpec wsX0_compact ({ frames := 2, cells := 0, slots := 0, locals := 60 } : Room)).room s m ([.ref (ad 0)] : List Value).toArray below meth c H locs 0 0 (MQ below (va_Qi (fun (r : Int32) (u : C0) => ∃ (k j : Nat) (gt go gk gv gr gc ho hk hv hr hc : Nat → Int32), k < sc ∧ (∀ i, k < i → i < sc → ¬ fb i ≤ nI du) ∧ (0 < k → fb k ≤ nI du) ∧ ix fo n (fb k) j ∧ lat K gt j ∧ cv (sv K gt fr fc) fo fo go j ∧ cv (sv K gt fr fc) fk fk gk j ∧ cv (sv K gt fr fc) fv fv gv j ∧ cv (sv K gt fr fc) fr fr gr j ∧ cv (sv K gt fr fc) fc (fun _ => nI 1) gc j ∧ dr go ho (kp (sv K gt fr fc) j).length (j - (kp (sv K gt fr fc) j).length) n ∧ dr gk hk (kp (sv K gt fr fc) j).length (j - (kp (sv K gt fr fc) j).length) n ∧ dr gv hv (kp (sv K gt fr fc) j).length (j - (kp (sv K gt fr fc) j).length) n ∧ dr gr hr (kp (sv K gt fr fc) j).length (j - (kp (sv K gt fr fc) j).length) n ∧ dr gc hc (kp (sv K gt fr fc) j).length (j - (kp (sv K gt fr fc) j).length) n ∧ r = nI (j - (kp (sv K gt fr fc) j).length) ∧ u = (n - (j - (kp (sv K gt fr fc) j).length), sc, st, en, du, ho, hk, hv, hr, hc, fb, fp, gt)) (at0 dC dI cI cZ ad A) A) ([.ref (ad 0)] : List Value).toArray s 0 0 A) (F0 m 34 ls []) := by
    intro gt H locs ls hlat hP hD hS hl
    obtain ⟨b, hbe⟩ : ∃ b, b = (sv K gt fr fc) := ⟨_, rfl⟩
    refine lv_iconst (v := nI 0) hx hb dX0_compact_34 (by decide) ?_
    refine lv_istore_n (lv' := [(2, .int (nI 0)), (1, .int (nI j)), (0, .ref (ad 0))]) hx hb dX0_compact_35 rfl hl (by decide) rfl (fun ls hl => ?_)
    refine lv_iconst (v := nI 0) hx hb dX0_compact_36 (by decide) ?_
    refine lv_istore_n (lv' := [(3, .int (nI 0)), (2, .int (nI 0)), (1, .int (nI j)), (0, .ref (ad 0))]) hx hb dX0_compact_37 rfl hl (by decide) rfl (fun ls hl => ?_)
    have loop2 : ∀ (z i : Nat) (go gk gv gr gc : Nat → Int32) (H : Heap) (locs : List Loc) (ls : Array Slot), j + 1 ≤ i + z → i ≤ j → cv b fo fo go i → cv b fk fk gk i → cv b fv fv gv i → cv b fr fr gr i → cv b fc (fun _ => nI 1) gc i → va_P (dC, dI) vwCl (w0 cI cZ ad (n, sc, st, en, du, go, gk, gv, gr, gc, fb, fp, gt)) H → va_D A (w0 cI cZ ad (n, sc, st, en, du, go, gk, gv, gr, gc, fb, fp, gt)) → va_S A s.heap H locs → lv_has ls 4 [(3, .int (nI i)), (2, .int (nI (kp b i).length)), (1, .int (nI j)), (0, .ref (ad 0))] → W p l e (headSpec wsX0_compact ({ frames := 2, cells := 0, slots := 0, locals := 60 } : Room)).room s m ([.ref (ad 0)] : List Value).toArray below meth c H locs 0 0 (MQ below (va_Qi (fun (r : Int32) (u : C0) => ∃ (k j : Nat) (gt go gk gv gr gc ho hk hv hr hc : Nat → Int32), k < sc ∧ (∀ i, k < i → i < sc → ¬ fb i ≤ nI du) ∧ (0 < k → fb k ≤ nI du) ∧ ix fo n (fb k) j ∧ lat K gt j ∧ cv (sv K gt fr fc) fo fo go j ∧ cv (sv K gt fr fc) fk fk gk j ∧ cv (sv K gt fr fc) fv fv gv j ∧ cv (sv K gt fr fc) fr fr gr j ∧ cv (sv K gt fr fc) fc (fun _ => nI 1) gc j ∧ dr go ho (kp (sv K gt fr fc) j).length (j - (kp (sv K gt fr fc) j).length) n ∧ dr gk hk (kp (sv K gt fr fc) j).length (j - (kp (sv K gt fr fc) j).length) n ∧ dr gv hv (kp (sv K gt fr fc) j).length (j - (kp (sv K gt fr fc) j).length) n ∧ dr gr hr (kp (sv K gt fr fc) j).length (j - (kp (sv K gt fr fc) j).length) n ∧ dr gc hc (kp (sv K gt fr fc) j).length (j - (kp (sv K gt fr fc) j).length) n ∧ r = nI (j - (kp (sv K gt fr fc) j).length) ∧ u = (n - (j - (kp (sv K gt fr fc) j).length), sc, st, en, du, ho, hk, hv, hr, hc, fb, fp, gt)) (at0 dC dI cI cZ ad A) A) ([.ref (ad 0)] : List Value).toArray s 0 0 A) (F0 m 38 ls []) := by
      intro z
      induction z with
      | zero => intro i go gk gv gr gc H locs ls h1 h2; omega
      | succ z ih =>
        intro i go gk gv gr gc H locs ls p1 p2 e1 e2 e3 e4 e5 hP hD hS hl
        have hkl := kp_le b i
        refine lv_iload_n hx hb dX0_compact_38 rfl (lv_at hl 0 rfl) ?_
        refine lv_iload_n hx hb dX0_compact_39 rfl (lv_at hl 2 rfl) ?_
        refine lv_icmp_ge (tgt := 73) hx hb dX0_compact_40 (by decide) (fun c1 => ?_) (fun c1 => ?_)
        · skip
          have hi := q_le (by omega) (by omega) c1
          have hi : i = j := by omega
          subst hi
          refine lv_aload_n hx hb dX0_compact_73 rfl (lv_at hl 3 rfl) ?_
          refine lv_iload_n hx hb dX0_compact_74 rfl (lv_at hl 1 rfl) ?_
          refine lv_iload_n hx hb dX0_compact_75 rfl (lv_at hl 2 rfl) ?_
          have hFc := va_free (wc := w0 cI cZ ad (n, sc, st, en, du, go, gk, gv, gr, gc, fb, fp, gt)) hD hS hA [0, 1, 2, 3, 4, 5, 6, 7, 8] rfl
          refine va_calli (va_runV (As := [.int (nI ((kp b i).length)), .int (nI i)]) (rest := []) ⟨hx, hb, hml, hown, hts⟩ (c0_dropRecords l dC dI cI cZ ad H.size n sc st en du go gk gv gr gc fb fp gt (kp b i).length i hkl hjn hn (fun q q1 q2 => by rw [e4.2 q q1]; exact h1 q q2) (fun q q1 q2 => by rw [e5.2 q q1]; exact h2 q q2)) (cwV 2 hts gX0_compact_X0_dropRecords rfl rfl rfl (by decide +kernel) ⟨Nat.le_of_ble_eq_true rfl, Nat.le_of_ble_eq_true rfl⟩) ⟨bl_w, va_recv hK hP (ci := 0) (q0 := 0) rfl rfl, fun U hU hW => ⟨rfl, by rw [hU], by rw [hU]; exact hP, va_K.moved hW.alike hK, hD.weaken (fun _ _ _ _ => trivial)⟩⟩ rfl rfl hl.1 rfl (lv_room (Nat.le_of_ble_eq_true rfl)) dX0_compact_76 ⟨by decide, by decide⟩) hS (fun q _ h => hFc q h) hFc (fun r3 u t H1 locs ht hvm hq hB hz1 hk1 hS => ?_)
          obtain ⟨rfl, ho, hk, hv, hw, hc, hu, d1, d2, d3, d4, d5⟩ := hq
          subst hu
          obtain ⟨hP1, hK1, hD1⟩ := hB
          rw [ht] at hP1
          have hD1 := hD1.weaken (B := A) (fun k q _ h => hFc q.1 h)
          generalize H1 = H at hP1 hS ⊢
          have hP : va_P (dC, dI) vwCl (w0 cI cZ ad (n - (i - (kp b i).length), sc, st, en, du, ho, hk, hv, hw, hc, fb, fp, gt)) H := hP1
          have hD : va_D A (w0 cI cZ ad (n - (i - (kp b i).length), sc, st, en, du, ho, hk, hv, hw, hc, fb, fp, gt)) := hD1
          subst hbe
          exact W.iret (v := nI (i - (kp (sv K gt fr fc) i).length)) hx hb hr (fun t ht hW => ⟨⟨_, (n - (i - (kp (sv K gt fr fc) i).length), sc, st, en, du, ho, hk, hv, hw, hc, fb, fp, gt), rfl, ⟨k, i, gt, go, gk, gv, gr, gc, ho, hk, hv, hw, hc, hp1, hp2, hp3, hj, hlat, e1, e2, e3, e4, e5, d1, d2, d3, d4, d5, rfl, rfl⟩, by rw [ht]; exact hP, va_K.moved hW.alike hK, hD⟩, hS.F ht⟩) hS.2.2 dX0_compact_79
        · skip
          have hi : i < j := q_nle (by omega) (by omega) c1
          refine lv_aload_n hx hb dX0_compact_43 rfl (lv_at hl 3 rfl) ?_
          refine lv_iload_n hx hb dX0_compact_44 rfl (lv_at hl 0 rfl) ?_
          have hki : gk i = nI (K i) := by rw [e2.2 i (Nat.le_refl i)]; exact (hky i (by omega)).1
          refine vp_callSi (W.runV (As := [.int (nI i)]) (rest := []) ⟨hx, hb, hml, hown, hts⟩ (c0_outlivesCleaning l dC dI cI cZ ad n sc st en du go gk gv gr gc fb fp gt i (K i) (by omega) hn hki (hky i (by omega)).2) (cwV 1 hts gX0_compact_X0_outlivesCleaning rfl rfl rfl (by decide +kernel) ⟨Nat.le_of_ble_eq_true rfl, Nat.le_of_ble_eq_true rfl⟩) ⟨bl_r, va_recv hK hP (ci := 0) (q0 := 0) rfl rfl, fun U hU hW => ⟨rfl, by rw [hU]; exact hP, va_K.moved hW.alike hK⟩⟩ rfl rfl hl.1 rfl (lv_room (Nat.le_of_ble_eq_true rfl)) dX0_compact_45 ⟨by decide, by decide⟩) (fun r1 hq => ?_)
          rw [e4.2 i (Nat.le_refl i), e5.2 i (Nat.le_refl i)] at hq
          rcases hq with ⟨rfl, hq⟩ | ⟨rfl, hq⟩
          · skip
            have hbi : b i = true := by rw [hbe]; exact sv_t.mpr hq
            refine lv_if_eq (tgt := 67) hx hb dX0_compact_48 (by decide) (fun c2 => ?_) (fun c2 => ?_)
            · skip
              exact absurd c2 (by decide)
            · skip
              refine lv_aload_n hx hb dX0_compact_51 rfl (lv_at hl 3 rfl) ?_
              refine lv_iload_n hx hb dX0_compact_52 rfl (lv_at hl 0 rfl) ?_
              refine lv_iload_n hx hb dX0_compact_53 rfl (lv_at hl 1 rfl) ?_
              have hFc := va_free (wc := w0 cI cZ ad (n, sc, st, en, du, go, gk, gv, gr, gc, fb, fp, gt)) hD hS hA [0, 1, 2, 3, 4, 5, 6, 7, 8] rfl
              refine va_callv (va_runV (As := [.int (nI i), .int (nI ((kp b i).length))]) (rest := []) ⟨hx, hb, hml, hown, hts⟩ (c0_moveRecord l dC dI cI cZ ad H.size n sc st en du go gk gv gr gc fb fp gt i (kp b i).length (by omega) (by omega) (by rw [e4.2 i (Nat.le_refl i)]; exact h1 i (by omega)) (by rw [e5.2 i (Nat.le_refl i)]; exact h2 i (by omega))) (cwV 2 hts gX0_compact_X0_moveRecord rfl rfl rfl (by decide +kernel) ⟨Nat.le_of_ble_eq_true rfl, Nat.le_of_ble_eq_true rfl⟩) ⟨bl_w, va_recv hK hP (ci := 0) (q0 := 0) rfl rfl, fun U hU hW => ⟨rfl, by rw [hU], by rw [hU]; exact hP, va_K.moved hW.alike hK, hD.weaken (fun _ _ _ _ => trivial)⟩⟩ rfl rfl hl.1 rfl (lv_room (Nat.le_of_ble_eq_true rfl)) dX0_compact_54 ⟨by decide, by decide⟩) hS (fun q _ h => hFc q h) hFc (fun u t H1 locs ht hvm hq hB hz1 hk1 hS => ?_)
              have hu := hq
              subst hu
              obtain ⟨hP1, hK1, hD1⟩ := hB
              rw [ht] at hP1
              have hD1 := hD1.weaken (B := A) (fun k q _ h => hFc q.1 h)
              generalize H1 = H at hP1 hS ⊢
              have hP : va_P (dC, dI) vwCl (w0 cI cZ ad (n, sc, st, en, du, (upd go (kp b i).length (go i)), (upd gk (kp b i).length (gk i)), (upd gv (kp b i).length (gv i)), (upd gr (kp b i).length (gr i)), (upd gc (kp b i).length (gc i)), fb, fp, gt)) H := hP1
              have hD : va_D A (w0 cI cZ ad (n, sc, st, en, du, (upd go (kp b i).length (go i)), (upd gk (kp b i).length (gk i)), (upd gv (kp b i).length (gv i)), (upd gr (kp b i).length (gr i)), (upd gc (kp b i).length (gc i)), fb, fp, gt)) := hD1
              refine lv_aload_n hx hb dX0_compact_57 rfl (lv_at hl 3 rfl) ?_
              refine va_get (D := (dC, dI)) (ci := 0) (v := .ref (ad 5)) (C := RX0) (T := TX0) (N := 13) hx hb h00 (fun _ h => h) hown hK hP 0 rfl rfl 4 (by decide) L3 (fun _ h9 => h9) rfl dX0_compact_58 ?_
              refine lv_iload_n hx hb dX0_compact_61 rfl (lv_at hl 1 rfl) ?_
              refine lv_iconst (v := nI 1) hx hb dX0_compact_62 (by decide) ?_
              refine qa_zast (i := (kp b i).length) hx hb hK hP hD hS 5 1 rfl rfl (by omega) (by decide) (by decide) dX0_compact_63 (fun H locs hP hD hS => ?_)
              have hP : va_P (dC, dI) vwCl (w0 cI cZ ad (n, sc, st, en, du, (upd go (kp b i).length (go i)), (upd gk (kp b i).length (gk i)), (upd gv (kp b i).length (gv i)), (upd gr (kp b i).length (gr i)), (upd ((upd gc (kp b i).length (gc i))) ((kp b i).length) (nI 1)), fb, fp, gt)) H := hP
              have hD : va_D A (w0 cI cZ ad (n, sc, st, en, du, (upd go (kp b i).length (go i)), (upd gk (kp b i).length (gk i)), (upd gv (kp b i).length (gv i)), (upd gr (kp b i).length (gr i)), (upd ((upd gc (kp b i).length (gc i))) ((kp b i).length) (nI 1)), fb, fp, gt)) := hD
              refine lv_iinc (v := nI ((kp b i).length + 1)) (lv' := [(2, .int (nI ((kp b i).length + 1))), (3, .int (nI i)), (1, .int (nI j)), (0, .ref (ad 0))]) hx hb dX0_compact_64 hl (k := 1) rfl (qa_inc1 ((kp b i).length)) (by decide) rfl (fun ls hl => ?_)
              refine lv_iinc (v := nI (i + 1)) (lv' := [(3, .int (nI (i + 1))), (2, .int (nI ((kp b i).length + 1))), (1, .int (nI j)), (0, .ref (ad 0))]) hx hb dX0_compact_67 hl (k := 1) rfl (qa_inc1 i) (by decide) rfl (fun ls hl => ?_)
              refine lv_goto (tgt := 38) hx hb dX0_compact_70 (by decide) ?_
              have hk9 : (kp b i).length + 1 = (kp b (i + 1)).length := by rw [kp_t hbi]; simp
              rw [hk9] at hl
              exact ih (i + 1) _ _ _ _ _ _ _ ls (by omega) (by omega) (cv_t hbi e1 (e1.2 i (Nat.le_refl i))) (cv_t hbi e2 (e2.2 i (Nat.le_refl i))) (cv_t hbi e3 (e3.2 i (Nat.le_refl i))) (cv_t hbi e4 (e4.2 i (Nat.le_refl i))) (cv_u (cv_t hbi e5 rfl)) hP hD hS (lv_sub hl [0, 1, 2, 3] rfl)
          · skip
            have hbi : b i = false := by rw [hbe]; exact Bool.eq_false_iff.mpr (fun h => hq (sv_t.mp h))
            refine lv_if_eq (tgt := 67) hx hb dX0_compact_48 (by decide) (fun c2 => ?_) (fun c2 => ?_)
            · skip
              refine lv_iinc (v := nI (i + 1)) (lv' := [(3, .int (nI (i + 1))), (2, .int (nI ((kp b i).length))), (1, .int (nI j)), (0, .ref (ad 0))]) hx hb dX0_compact_67 hl (k := 0) rfl (qa_inc1 i) (by decide) rfl (fun ls hl => ?_)
              refine lv_goto (tgt := 38) hx hb dX0_compact_70 (by decide) ?_
              rw [← kp_f hbi] at hl
              exact ih (i + 1) _ _ _ _ _ _ _ ls (by omega) (by omega) (cv_f hbi e1) (cv_f hbi e2) (cv_f hbi e3) (cv_f hbi e4) (cv_f hbi e5) hP hD hS (lv_sub hl [0, 1, 2, 3] rfl)
            · skip
              exact absurd rfl c2
    exact loop2 (j + 1) 0 fo fk fv fr fc _ _ ls (by omega) (by omega) cv_0 cv_0 cv_0 cv_0 cv_0 hP hD hS (lv_sub hl [0, 1, 2, 3] rfl)
  have loop : ∀ (z i : Nat) (gt : Nat → Int32) (H : Heap) (locs : List Loc) (ls : Array Slot), j + 1 ≤ i + z → i ≤ j → lat K gt i → va_P (dC, dI) vwCl (w0 cI cZ ad (n, sc, st, en, du, fo, fk, fv, fr, fc, fb, fp, gt)) H → va_D A (w0 cI cZ ad (n, sc, st, en, du, fo, fk, fv, fr, fc, fb, fp, gt)) → va_S A s.heap H locs → lv_has ls 4 [(2, .int (nI i)), (1, .int (nI j)), (0, .ref (ad 0))] → W p l e (headSpec wsX0_compact ({ frames := 2, cells := 0, slots := 0, locals := 60 } : Room)).room s m ([.ref (ad 0)] : List Value).toArray below meth c H locs 0 0 (MQ below (va_Qi (fun (r : Int32) (u : C0) => ∃ (k j : Nat) (gt go gk gv gr gc ho hk hv hr hc : Nat → Int32), k < sc ∧ (∀ i, k < i → i < sc → ¬ fb i ≤ nI du) ∧ (0 < k → fb k ≤ nI du) ∧ ix fo n (fb k) j ∧ lat K gt j ∧ cv (sv K gt fr fc) fo fo go j ∧ cv (sv K gt fr fc) fk fk gk j ∧ cv (sv K gt fr fc) fv fv gv j ∧ cv (sv K gt fr fc) fr fr gr j ∧ cv (sv K gt fr fc) fc (fun _ => nI 1) gc j ∧ dr go ho (kp (sv K gt fr fc) j).length (j - (kp (sv K gt fr fc) j).length) n ∧ dr gk hk (kp (sv K gt fr fc) j).length (j - (kp (sv K gt fr fc) j).length) n ∧ dr gv hv (kp (sv K gt fr fc) j).length (j - (kp (sv K gt fr fc) j).length) n ∧ dr gr hr (kp (sv K gt fr fc) j).length (j - (kp (sv K gt fr fc) j).length) n ∧ dr gc hc (kp (sv K gt fr fc) j).length (j - (kp (sv K gt fr fc) j).length) n ∧ r = nI (j - (kp (sv K gt fr fc) j).length) ∧ u = (n - (j - (kp (sv K gt fr fc) j).length), sc, st, en, du, ho, hk, hv, hr, hc, fb, fp, gt)) (at0 dC dI cI cZ ad A) A) ([.ref (ad 0)] : List Value).toArray s 0 0 A) (F0 m 11 ls []) := by
    intro z
    induction z with
    | zero => intro i gt H locs ls h1 h2; omega
    | succ z ih =>
      intro i gt H locs ls p1 p2 p3 hP hD hS hl
      refine lv_iload_n hx hb dX0_compact_11 rfl (lv_at hl 0 rfl) ?_
      refine lv_iload_n hx hb dX0_compact_12 rfl (lv_at hl 1 rfl) ?_
      refine lv_icmp_ge (tgt := 34) hx hb dX0_compact_13 (by decide) (fun c1 => ?_) (fun c1 => ?_)
      · skip
        have hi := q_le (by omega) (by omega) c1
        have hi : i = j := by omega
        subst hi
        exact stage2 gt H locs ls p3 hP hD hS (lv_sub hl [1, 2] rfl)
      · skip
        have hi : i < j := q_nle (by omega) (by omega) c1
        have hk16 := (hky i (by omega)).2
        refine lv_aload_n hx hb dX0_compact_16 rfl (lv_at hl 2 rfl) ?_
        refine va_get (D := (dC, dI)) (ci := 0) (v := .ref (ad 8)) (C := RX0) (T := TX0) (N := 13) hx hb h00 (fun _ h => h) hown hK hP 0 rfl rfl 9 (by decide) L1 (fun _ h9 => h9) rfl dX0_compact_17 ?_
        refine lv_aload_n hx hb dX0_compact_20 rfl (lv_at hl 2 rfl) ?_
        refine va_get (D := (dC, dI)) (ci := 0) (v := .ref (ad 2)) (C := RX0) (T := TX0) (N := 13) hx hb h00 (fun _ h => h) hown hK hP 0 rfl rfl 1 (by decide) L2 (fun _ h9 => h9) rfl dX0_compact_21 ?_
        refine lv_iload_n hx hb dX0_compact_24 rfl (lv_at hl 0 rfl) ?_
        refine qa_iald (i := i) hx hb hK hP 2 0 rfl rfl (by omega) (by decide) dX0_compact_25 ?_
        refine qa_top (hky i (by omega)).1 ?_
        refine lv_iload_n hx hb dX0_compact_26 rfl (lv_at hl 0 rfl) ?_
        refine qa_iast (i := K i) hx hb hK hP hD hS 8 0 rfl rfl (by omega) (by decide) dX0_compact_27 (fun H locs hP hD hS => ?_)
        have hP : va_P (dC, dI) vwCl (w0 cI cZ ad (n, sc, st, en, du, fo, fk, fv, fr, fc, fb, fp, (upd gt (K i) (nI i)))) H := hP
        have hD : va_D A (w0 cI cZ ad (n, sc, st, en, du, fo, fk, fv, fr, fc, fb, fp, (upd gt (K i) (nI i)))) := hD
        refine lv_iinc (v := nI (i + 1)) (lv' := [(2, .int (nI (i + 1))), (1, .int (nI j)), (0, .ref (ad 0))]) hx hb dX0_compact_28 hl (k := 0) rfl (qa_inc1 i) (by decide) rfl (fun ls hl => ?_)
        refine lv_goto (tgt := 11) hx hb dX0_compact_31 (by decide) ?_
        exact ih (i + 1) _ _ _ ls (by omega) (by omega) (lat_s p3) hP hD hS (lv_sub hl [0, 1, 2] rfl)
  exact loop (j + 1) 0 ft _ _ ls (by omega) (by omega) (fun q h => absurd h (Nat.not_lt_zero q)) hP hD hS (lv_sub hl [0, 1, 2] rfl)
