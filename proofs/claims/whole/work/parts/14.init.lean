theorem kt_same {D : va_G} {cl : List vw_C} {tys : List (ClassId × FieldType)} {U : State} (h : va_K D cl tys U) {i j : Nat} {c1 c2 : ClassId} (hi : tys[i]? = some (c1, .int)) (hj : tys[j]? = some (c2, .int)) : c1 = c2 := by
  have h1 : U.vm.findClass ("[" ++ FieldType.int.toString) = some c1 := (h.2 i _ hi).2
  have h2 : U.vm.findClass ("[" ++ FieldType.int.toString) = some c2 := (h.2 j _ hj).2
  exact Option.some.inj (h1.symm.trans h2)
theorem kt_sameZ {D : va_G} {cl : List vw_C} {tys : List (ClassId × FieldType)} {U : State} (h : va_K D cl tys U) {i j : Nat} {c1 c2 : ClassId} (hi : tys[i]? = some (c1, .boolean)) (hj : tys[j]? = some (c2, .boolean)) : c1 = c2 := by
  have h1 : U.vm.findClass ("[" ++ FieldType.boolean.toString) = some c1 := (h.2 i _ hi).2
  have h2 : U.vm.findClass ("[" ++ FieldType.boolean.toString) = some c2 := (h.2 j _ hj).2
  exact Option.some.inj (h1.symm.trans h2)
def z0 : Nat → Int32 := fun _ => 0
def ad9 (a0 a1 a2 a3 a4 a5 a6 a7 a8 : Nat) : Nat → Nat := fun k => match k with
  | 0 => a0 | 1 => a1 | 2 => a2 | 3 => a3 | 4 => a4 | 5 => a5 | 6 => a6 | 7 => a7 | _ => a8
set_option maxHeartbeats 400000 in
set_option maxRecDepth 100000 in
theorem c0_init (l : Launch) (dC : Nat → ClassId) (dI : Nat → Nat → Nat) (h0 sz : Nat) : Met l yX0_init wsX0_init ({ frames := 1, cells := 8, slots := 833, locals := 12 } : Room) (va_Pc [.ref h0] (fun U => U.heap.size = sz ∧ va_P (dC, dI) vwCl [(h0, .inr (0, [.null, .null, .null, .null, .null, .int 0, .null, .int 0, .null, .null, .int 0, .int 0, .int 0]))] U.heap ∧ va_K (dC, dI) vwCl [] U ∧ va_D (fun _ => True) [(h0, .inr (0, [.null, .null, .null, .null, .null, .int 0, .null, .int 0, .null, .null, .int 0, .int 0, .int 0]))])) (va_Qv (fun u : ClassId × ClassId × (Nat → Nat) => u.2.2 0 = h0) (fun u t => at0 dC dI u.1 u.2.1 u.2.2 (va_A [(h0, .inr (0, [.null, .null, .null, .null, .null, .int 0, .null, .int 0, .null, .null, .int 0, .int 0, .int 0]))] sz) (0, 1, 0, 0, 0, z0, z0, z0, z0, z0, z0, z0, z0) t) (va_A [(h0, .inr (0, [.null, .null, .null, .null, .null, .int 0, .null, .int 0, .null, .null, .int 0, .int 0, .int 0]))] sz)) 8 833 (va_A [(h0, .inr (0, [.null, .null, .null, .null, .null, .int 0, .null, .int 0, .null, .null, .int 0, .int 0, .int 0]))] sz) := by
  refine Met.ofW (cc := cX0_init) (maxL := 1) (ret := none) (by decide) rfl ?_
  intro p e s m args below meth c s₁ B hml hv
  obtain ⟨rfl, hsz, hP, hK, hD0⟩ := hv
  have hx := B.exec
  have hb := B.bytes
  have hr := B.returns
  have hts := atoms_spec (ws := wsX0_init) B.pre
  have hown : s.vm.findClass RX0 = some m.cls := findClass_of_methodNamed B.named
  have hlocks := B.notSynchronized
  have hin : meth.name = "<init>" := (name_of_methodNamed B.named B.method).1
  have h00 : ∀ w ∈ wsX00, w.before _ s = true := fun w h => hts w (List.mem_cons_of_mem _ (List.mem_append_right _ h))
  subst hsz
  have hD := hD0.self (sz := s.heap.size)
  generalize hAe : va_A [(h0, .inr (0, [.null, .null, .null, .null, .null, .int 0, .null, .int 0, .null, .null, .int 0, .int 0, .int 0]))] s.heap.size = A at hD ⊢
  have hA : ∀ q : Nat, s.heap.size ≤ q → A q := fun q h => by rw [← hAe]; exact Or.inr h
  have hS : va_S A s.heap s.heap [] := va_S.rf
  have hP : va_P (dC, dI) vwCl [(h0, .inr (0, [.null, .null, .null, .null, .null, .int 0, .null, .int 0, .null, .null, .int 0, .int 0, .int 0]))] s.heap := hP
  have hl := lv_entry ([.ref h0]) (n := 1) (Nat.le_of_ble_eq_true rfl)
  rw [lg_entry_eq]
  generalize (lg_sl ([.ref h0]) ++ List.replicate (1 - (lg_sl ([.ref h0])).length) Slot.unset).toArray = ls at hl ⊢
  have hl : lv_has ls 1 [(0, .ref h0)] := hl
  refine lv_aload_n hx hb dX0_init_0 rfl (lv_at hl 0 rfl) ?_
  refine W.objInit hx hb hown (hts (.methodLink RX0 1 objectInit) (List.mem_of_getElem? (i := 1) rfl)) (hts (.instanceMethod objectInit) (List.mem_of_getElem? (i := 2) rfl)) (hts (.code objectInit ⟨#[0xb1]⟩ 1 none) (List.mem_of_getElem? (i := 3) rfl)) rfl (by rw [hml]; exact hl.1) rfl dX0_init_1 (Nat.le_of_ble_eq_true rfl) (Nat.le_of_ble_eq_true rfl) ?_
  refine W.eq (g2 := F0 m 4 ls []) rfl ?_
  refine lv_aload_n hx hb dX0_init_4 rfl (lv_at hl 0 rfl) ?_
  refine lv_bipush (v := nI 60) hx hb dX0_init_5 (by decide) ?_
  refine va_newa (atype := .int) (a0 := (60, .inl z0)) (N' := 60) (ty := .int) hx hb (hts (.arrayClass .int) (List.mem_of_getElem? (i := 4) rfl)) rfl hK hP hD hS hA (fun _ => rfl) (nI_pos (by omega)) (nI_clamp (by omega)) (by show 60 * 4 ≤ 536870912; omega) (by show 0 + 1 ≤ 8; omega) (by show 0 + 60 ≤ 833; omega) dX0_init_7 (fun q1 k1 H hK hP hD hS => ?_)
  have hK : va_K (dC, dI) vwCl [(k1, .int)] s := hK
  have hP : va_P (dC, dI) vwCl [(h0, .inr (0, [.null, .null, .null, .null, .null, .int 0, .null, .int 0, .null, .null, .int 0, .int 0, .int 0])), (q1, .inl (k1, 60, .inl z0))] H := hP
  have hD : va_D A [(h0, .inr (0, [.null, .null, .null, .null, .null, .int 0, .null, .int 0, .null, .null, .int 0, .int 0, .int 0])), (q1, .inl (k1, 60, .inl z0))] := hD
  refine W.widen (k := 1) (n := 60) (by omega) (by omega) ?_
  refine va_putF (D := (dC, dI)) (ci := 0) (v := .ref q1) (ty := .array .int) (C := RX0) (T := TX0) (N := 13) hx hb h00 (fun _ h => h) tyX0 tyX0_ok nmX0 hown hK hP hD hS 0 rfl rfl 0 (by decide) (hts (.fieldLink RX0 9 "SegmentLog" "offsets" "[I") (List.mem_of_getElem? (i := 5) rfl)) (fun _ h9 => h9) rfl hin rfl (by decide +kernel) rfl rfl (Nat.le_of_ble_eq_true rfl) dX0_init_9 (fun H locs hP hD hS => ?_)
  have hP : va_P (dC, dI) vwCl [(h0, .inr (0, [.ref q1, .null, .null, .null, .null, .int 0, .null, .int 0, .null, .null, .int 0, .int 0, .int 0])), (q1, .inl (k1, 60, .inl z0))] H := hP
  have hD : va_D A [(h0, .inr (0, [.ref q1, .null, .null, .null, .null, .int 0, .null, .int 0, .null, .null, .int 0, .int 0, .int 0])), (q1, .inl (k1, 60, .inl z0))] := hD
  refine lv_aload_n hx hb dX0_init_12 rfl (lv_at hl 0 rfl) ?_
  refine lv_bipush (v := nI 60) hx hb dX0_init_13 (by decide) ?_
  refine va_newa (atype := .int) (a0 := (60, .inl z0)) (N' := 60) (ty := .int) hx hb (hts (.arrayClass .int) (List.mem_of_getElem? (i := 4) rfl)) rfl hK hP hD hS hA (fun _ => rfl) (nI_pos (by omega)) (nI_clamp (by omega)) (by show 60 * 4 ≤ 536870912; omega) (by show 1 + 1 ≤ 8; omega) (by show 60 + 60 ≤ 833; omega) dX0_init_15 (fun q2 k2 H hK hP hD hS => ?_)
  have hK : va_K (dC, dI) vwCl [(k1, .int), (k2, .int)] s := hK
  have hP : va_P (dC, dI) vwCl [(h0, .inr (0, [.ref q1, .null, .null, .null, .null, .int 0, .null, .int 0, .null, .null, .int 0, .int 0, .int 0])), (q1, .inl (k1, 60, .inl z0)), (q2, .inl (k2, 60, .inl z0))] H := hP
  have hD : va_D A [(h0, .inr (0, [.ref q1, .null, .null, .null, .null, .int 0, .null, .int 0, .null, .null, .int 0, .int 0, .int 0])), (q1, .inl (k1, 60, .inl z0)), (q2, .inl (k2, 60, .inl z0))] := hD
  refine W.widen (k := 2) (n := 120) (by omega) (by omega) ?_
  refine va_putF (D := (dC, dI)) (ci := 0) (v := .ref q2) (ty := .array .int) (C := RX0) (T := TX0) (N := 13) hx hb h00 (fun _ h => h) tyX0 tyX0_ok nmX0 hown hK hP hD hS 0 rfl rfl 1 (by decide) (hts (.fieldLink RX0 13 "SegmentLog" "keys" "[I") (List.mem_of_getElem? (i := 6) rfl)) (fun _ h9 => h9) rfl hin rfl (by decide +kernel) rfl rfl (Nat.le_of_ble_eq_true rfl) dX0_init_17 (fun H locs hP hD hS => ?_)
  have hP : va_P (dC, dI) vwCl [(h0, .inr (0, [.ref q1, .ref q2, .null, .null, .null, .int 0, .null, .int 0, .null, .null, .int 0, .int 0, .int 0])), (q1, .inl (k1, 60, .inl z0)), (q2, .inl (k2, 60, .inl z0))] H := hP
  have hD : va_D A [(h0, .inr (0, [.ref q1, .ref q2, .null, .null, .null, .int 0, .null, .int 0, .null, .null, .int 0, .int 0, .int 0])), (q1, .inl (k1, 60, .inl z0)), (q2, .inl (k2, 60, .inl z0))] := hD
  refine lv_aload_n hx hb dX0_init_20 rfl (lv_at hl 0 rfl) ?_
  refine lv_bipush (v := nI 60) hx hb dX0_init_21 (by decide) ?_
  refine va_newa (atype := .int) (a0 := (60, .inl z0)) (N' := 60) (ty := .int) hx hb (hts (.arrayClass .int) (List.mem_of_getElem? (i := 4) rfl)) rfl hK hP hD hS hA (fun _ => rfl) (nI_pos (by omega)) (nI_clamp (by omega)) (by show 60 * 4 ≤ 536870912; omega) (by show 2 + 1 ≤ 8; omega) (by show 120 + 60 ≤ 833; omega) dX0_init_23 (fun q3 k3 H hK hP hD hS => ?_)
  have hK : va_K (dC, dI) vwCl [(k1, .int), (k2, .int), (k3, .int)] s := hK
  have hP : va_P (dC, dI) vwCl [(h0, .inr (0, [.ref q1, .ref q2, .null, .null, .null, .int 0, .null, .int 0, .null, .null, .int 0, .int 0, .int 0])), (q1, .inl (k1, 60, .inl z0)), (q2, .inl (k2, 60, .inl z0)), (q3, .inl (k3, 60, .inl z0))] H := hP
  have hD : va_D A [(h0, .inr (0, [.ref q1, .ref q2, .null, .null, .null, .int 0, .null, .int 0, .null, .null, .int 0, .int 0, .int 0])), (q1, .inl (k1, 60, .inl z0)), (q2, .inl (k2, 60, .inl z0)), (q3, .inl (k3, 60, .inl z0))] := hD
  refine W.widen (k := 3) (n := 180) (by omega) (by omega) ?_
  refine va_putF (D := (dC, dI)) (ci := 0) (v := .ref q3) (ty := .array .int) (C := RX0) (T := TX0) (N := 13) hx hb h00 (fun _ h => h) tyX0 tyX0_ok nmX0 hown hK hP hD hS 0 rfl rfl 2 (by decide) (hts (.fieldLink RX0 16 "SegmentLog" "values" "[I") (List.mem_of_getElem? (i := 7) rfl)) (fun _ h9 => h9) rfl hin rfl (by decide +kernel) rfl rfl (Nat.le_of_ble_eq_true rfl) dX0_init_25 (fun H locs hP hD hS => ?_)
  have hP : va_P (dC, dI) vwCl [(h0, .inr (0, [.ref q1, .ref q2, .ref q3, .null, .null, .int 0, .null, .int 0, .null, .null, .int 0, .int 0, .int 0])), (q1, .inl (k1, 60, .inl z0)), (q2, .inl (k2, 60, .inl z0)), (q3, .inl (k3, 60, .inl z0))] H := hP
  have hD : va_D A [(h0, .inr (0, [.ref q1, .ref q2, .ref q3, .null, .null, .int 0, .null, .int 0, .null, .null, .int 0, .int 0, .int 0])), (q1, .inl (k1, 60, .inl z0)), (q2, .inl (k2, 60, .inl z0)), (q3, .inl (k3, 60, .inl z0))] := hD
  refine lv_aload_n hx hb dX0_init_28 rfl (lv_at hl 0 rfl) ?_
  refine lv_bipush (v := nI 60) hx hb dX0_init_29 (by decide) ?_
  refine va_newa (atype := .boolean) (a0 := (60, .inl z0)) (N' := 60) (ty := .boolean) hx hb (hts (.arrayClass .boolean) (List.mem_of_getElem? (i := 8) rfl)) rfl hK hP hD hS hA (fun _ => rfl) (nI_pos (by omega)) (nI_clamp (by omega)) (by show 60 * 1 ≤ 536870912; omega) (by show 3 + 1 ≤ 8; omega) (by show 180 + 60 ≤ 833; omega) dX0_init_31 (fun q4 k4 H hK hP hD hS => ?_)
  have hK : va_K (dC, dI) vwCl [(k1, .int), (k2, .int), (k3, .int), (k4, .boolean)] s := hK
  have hP : va_P (dC, dI) vwCl [(h0, .inr (0, [.ref q1, .ref q2, .ref q3, .null, .null, .int 0, .null, .int 0, .null, .null, .int 0, .int 0, .int 0])), (q1, .inl (k1, 60, .inl z0)), (q2, .inl (k2, 60, .inl z0)), (q3, .inl (k3, 60, .inl z0)), (q4, .inl (k4, 60, .inl z0))] H := hP
  have hD : va_D A [(h0, .inr (0, [.ref q1, .ref q2, .ref q3, .null, .null, .int 0, .null, .int 0, .null, .null, .int 0, .int 0, .int 0])), (q1, .inl (k1, 60, .inl z0)), (q2, .inl (k2, 60, .inl z0)), (q3, .inl (k3, 60, .inl z0)), (q4, .inl (k4, 60, .inl z0))] := hD
  refine W.widen (k := 4) (n := 240) (by omega) (by omega) ?_
  refine va_putF (D := (dC, dI)) (ci := 0) (v := .ref q4) (ty := .array .boolean) (C := RX0) (T := TX0) (N := 13) hx hb h00 (fun _ h => h) tyX0 tyX0_ok nmX0 hown hK hP hD hS 0 rfl rfl 3 (by decide) (hts (.fieldLink RX0 19 "SegmentLog" "removals" "[Z") (List.mem_of_getElem? (i := 9) rfl)) (fun _ h9 => h9) rfl hin rfl (by decide +kernel) rfl rfl (Nat.le_of_ble_eq_true rfl) dX0_init_33 (fun H locs hP hD hS => ?_)
  have hP : va_P (dC, dI) vwCl [(h0, .inr (0, [.ref q1, .ref q2, .ref q3, .ref q4, .null, .int 0, .null, .int 0, .null, .null, .int 0, .int 0, .int 0])), (q1, .inl (k1, 60, .inl z0)), (q2, .inl (k2, 60, .inl z0)), (q3, .inl (k3, 60, .inl z0)), (q4, .inl (k4, 60, .inl z0))] H := hP
  have hD : va_D A [(h0, .inr (0, [.ref q1, .ref q2, .ref q3, .ref q4, .null, .int 0, .null, .int 0, .null, .null, .int 0, .int 0, .int 0])), (q1, .inl (k1, 60, .inl z0)), (q2, .inl (k2, 60, .inl z0)), (q3, .inl (k3, 60, .inl z0)), (q4, .inl (k4, 60, .inl z0))] := hD
  refine lv_aload_n hx hb dX0_init_36 rfl (lv_at hl 0 rfl) ?_
  refine lv_bipush (v := nI 60) hx hb dX0_init_37 (by decide) ?_
  refine va_newa (atype := .boolean) (a0 := (60, .inl z0)) (N' := 60) (ty := .boolean) hx hb (hts (.arrayClass .boolean) (List.mem_of_getElem? (i := 8) rfl)) rfl hK hP hD hS hA (fun _ => rfl) (nI_pos (by omega)) (nI_clamp (by omega)) (by show 60 * 1 ≤ 536870912; omega) (by show 4 + 1 ≤ 8; omega) (by show 240 + 60 ≤ 833; omega) dX0_init_39 (fun q5 k5 H hK hP hD hS => ?_)
  have hK : va_K (dC, dI) vwCl [(k1, .int), (k2, .int), (k3, .int), (k4, .boolean), (k5, .boolean)] s := hK
  have hP : va_P (dC, dI) vwCl [(h0, .inr (0, [.ref q1, .ref q2, .ref q3, .ref q4, .null, .int 0, .null, .int 0, .null, .null, .int 0, .int 0, .int 0])), (q1, .inl (k1, 60, .inl z0)), (q2, .inl (k2, 60, .inl z0)), (q3, .inl (k3, 60, .inl z0)), (q4, .inl (k4, 60, .inl z0)), (q5, .inl (k5, 60, .inl z0))] H := hP
  have hD : va_D A [(h0, .inr (0, [.ref q1, .ref q2, .ref q3, .ref q4, .null, .int 0, .null, .int 0, .null, .null, .int 0, .int 0, .int 0])), (q1, .inl (k1, 60, .inl z0)), (q2, .inl (k2, 60, .inl z0)), (q3, .inl (k3, 60, .inl z0)), (q4, .inl (k4, 60, .inl z0)), (q5, .inl (k5, 60, .inl z0))] := hD
  refine W.widen (k := 5) (n := 300) (by omega) (by omega) ?_
  refine va_putF (D := (dC, dI)) (ci := 0) (v := .ref q5) (ty := .array .boolean) (C := RX0) (T := TX0) (N := 13) hx hb h00 (fun _ h => h) tyX0 tyX0_ok nmX0 hown hK hP hD hS 0 rfl rfl 4 (by decide) (hts (.fieldLink RX0 23 "SegmentLog" "cleaned" "[Z") (List.mem_of_getElem? (i := 10) rfl)) (fun _ h9 => h9) rfl hin rfl (by decide +kernel) rfl rfl (Nat.le_of_ble_eq_true rfl) dX0_init_41 (fun H locs hP hD hS => ?_)
  have hP : va_P (dC, dI) vwCl [(h0, .inr (0, [.ref q1, .ref q2, .ref q3, .ref q4, .ref q5, .int 0, .null, .int 0, .null, .null, .int 0, .int 0, .int 0])), (q1, .inl (k1, 60, .inl z0)), (q2, .inl (k2, 60, .inl z0)), (q3, .inl (k3, 60, .inl z0)), (q4, .inl (k4, 60, .inl z0)), (q5, .inl (k5, 60, .inl z0))] H := hP
  have hD : va_D A [(h0, .inr (0, [.ref q1, .ref q2, .ref q3, .ref q4, .ref q5, .int 0, .null, .int 0, .null, .null, .int 0, .int 0, .int 0])), (q1, .inl (k1, 60, .inl z0)), (q2, .inl (k2, 60, .inl z0)), (q3, .inl (k3, 60, .inl z0)), (q4, .inl (k4, 60, .inl z0)), (q5, .inl (k5, 60, .inl z0))] := hD
  refine lv_aload_n hx hb dX0_init_44 rfl (lv_at hl 0 rfl) ?_
  refine lv_iconst (v := nI 0) hx hb dX0_init_45 (by decide) ?_
  refine va_put (D := (dC, dI)) (ci := 0) (v := .int (nI 0)) (ty := .int) (C := RX0) (T := TX0) (N := 13) hx hb h00 (fun _ h => h) tyX0 tyX0_ok nmX0 hown hK hP hD hS 0 rfl rfl 5 (by decide) (hts (.fieldLink RX0 26 "SegmentLog" "recordCount" "I") (List.mem_of_getElem? (i := 11) rfl)) (fun _ h9 => h9) rfl rfl rfl rfl (Nat.le_of_ble_eq_true rfl) dX0_init_46 (fun H locs hP hD hS => ?_)
  have hP : va_P (dC, dI) vwCl [(h0, .inr (0, [.ref q1, .ref q2, .ref q3, .ref q4, .ref q5, .int (nI 0), .null, .int 0, .null, .null, .int 0, .int 0, .int 0])), (q1, .inl (k1, 60, .inl z0)), (q2, .inl (k2, 60, .inl z0)), (q3, .inl (k3, 60, .inl z0)), (q4, .inl (k4, 60, .inl z0)), (q5, .inl (k5, 60, .inl z0))] H := hP
  have hD : va_D A [(h0, .inr (0, [.ref q1, .ref q2, .ref q3, .ref q4, .ref q5, .int (nI 0), .null, .int 0, .null, .null, .int 0, .int 0, .int 0])), (q1, .inl (k1, 60, .inl z0)), (q2, .inl (k2, 60, .inl z0)), (q3, .inl (k3, 60, .inl z0)), (q4, .inl (k4, 60, .inl z0)), (q5, .inl (k5, 60, .inl z0))] := hD
  refine lv_aload_n hx hb dX0_init_49 rfl (lv_at hl 0 rfl) ?_
  refine lv_sipush (v := nI 513) hx hb dX0_init_50 (by decide) ?_
  refine va_newa (atype := .int) (a0 := (513, .inl z0)) (N' := 513) (ty := .int) hx hb (hts (.arrayClass .int) (List.mem_of_getElem? (i := 4) rfl)) rfl hK hP hD hS hA (fun _ => rfl) (nI_pos (by omega)) (nI_clamp (by omega)) (by show 513 * 4 ≤ 536870912; omega) (by show 5 + 1 ≤ 8; omega) (by show 300 + 513 ≤ 833; omega) dX0_init_53 (fun q6 k6 H hK hP hD hS => ?_)
  have hK : va_K (dC, dI) vwCl [(k1, .int), (k2, .int), (k3, .int), (k4, .boolean), (k5, .boolean), (k6, .int)] s := hK
  have hP : va_P (dC, dI) vwCl [(h0, .inr (0, [.ref q1, .ref q2, .ref q3, .ref q4, .ref q5, .int (nI 0), .null, .int 0, .null, .null, .int 0, .int 0, .int 0])), (q1, .inl (k1, 60, .inl z0)), (q2, .inl (k2, 60, .inl z0)), (q3, .inl (k3, 60, .inl z0)), (q4, .inl (k4, 60, .inl z0)), (q5, .inl (k5, 60, .inl z0)), (q6, .inl (k6, 513, .inl z0))] H := hP
  have hD : va_D A [(h0, .inr (0, [.ref q1, .ref q2, .ref q3, .ref q4, .ref q5, .int (nI 0), .null, .int 0, .null, .null, .int 0, .int 0, .int 0])), (q1, .inl (k1, 60, .inl z0)), (q2, .inl (k2, 60, .inl z0)), (q3, .inl (k3, 60, .inl z0)), (q4, .inl (k4, 60, .inl z0)), (q5, .inl (k5, 60, .inl z0)), (q6, .inl (k6, 513, .inl z0))] := hD
  refine W.widen (k := 6) (n := 813) (by omega) (by omega) ?_
  refine va_putF (D := (dC, dI)) (ci := 0) (v := .ref q6) (ty := .array .int) (C := RX0) (T := TX0) (N := 13) hx hb h00 (fun _ h => h) tyX0 tyX0_ok nmX0 hown hK hP hD hS 0 rfl rfl 6 (by decide) (hts (.fieldLink RX0 30 "SegmentLog" "bases" "[I") (List.mem_of_getElem? (i := 12) rfl)) (fun _ h9 => h9) rfl hin rfl (by decide +kernel) rfl rfl (Nat.le_of_ble_eq_true rfl) dX0_init_55 (fun H locs hP hD hS => ?_)
  have hP : va_P (dC, dI) vwCl [(h0, .inr (0, [.ref q1, .ref q2, .ref q3, .ref q4, .ref q5, .int (nI 0), .ref q6, .int 0, .null, .null, .int 0, .int 0, .int 0])), (q1, .inl (k1, 60, .inl z0)), (q2, .inl (k2, 60, .inl z0)), (q3, .inl (k3, 60, .inl z0)), (q4, .inl (k4, 60, .inl z0)), (q5, .inl (k5, 60, .inl z0)), (q6, .inl (k6, 513, .inl z0))] H := hP
  have hD : va_D A [(h0, .inr (0, [.ref q1, .ref q2, .ref q3, .ref q4, .ref q5, .int (nI 0), .ref q6, .int 0, .null, .null, .int 0, .int 0, .int 0])), (q1, .inl (k1, 60, .inl z0)), (q2, .inl (k2, 60, .inl z0)), (q3, .inl (k3, 60, .inl z0)), (q4, .inl (k4, 60, .inl z0)), (q5, .inl (k5, 60, .inl z0)), (q6, .inl (k6, 513, .inl z0))] := hD
  refine lv_aload_n hx hb dX0_init_58 rfl (lv_at hl 0 rfl) ?_
  refine lv_iconst (v := nI 1) hx hb dX0_init_59 (by decide) ?_
  refine va_put (D := (dC, dI)) (ci := 0) (v := .int (nI 1)) (ty := .int) (C := RX0) (T := TX0) (N := 13) hx hb h00 (fun _ h => h) tyX0 tyX0_ok nmX0 hown hK hP hD hS 0 rfl rfl 7 (by decide) (hts (.fieldLink RX0 33 "SegmentLog" "segmentCount" "I") (List.mem_of_getElem? (i := 13) rfl)) (fun _ h9 => h9) rfl rfl rfl rfl (Nat.le_of_ble_eq_true rfl) dX0_init_60 (fun H locs hP hD hS => ?_)
  have hP : va_P (dC, dI) vwCl [(h0, .inr (0, [.ref q1, .ref q2, .ref q3, .ref q4, .ref q5, .int (nI 0), .ref q6, .int (nI 1), .null, .null, .int 0, .int 0, .int 0])), (q1, .inl (k1, 60, .inl z0)), (q2, .inl (k2, 60, .inl z0)), (q3, .inl (k3, 60, .inl z0)), (q4, .inl (k4, 60, .inl z0)), (q5, .inl (k5, 60, .inl z0)), (q6, .inl (k6, 513, .inl z0))] H := hP
  have hD : va_D A [(h0, .inr (0, [.ref q1, .ref q2, .ref q3, .ref q4, .ref q5, .int (nI 0), .ref q6, .int (nI 1), .null, .null, .int 0, .int 0, .int 0])), (q1, .inl (k1, 60, .inl z0)), (q2, .inl (k2, 60, .inl z0)), (q3, .inl (k3, 60, .inl z0)), (q4, .inl (k4, 60, .inl z0)), (q5, .inl (k5, 60, .inl z0)), (q6, .inl (k6, 513, .inl z0))] := hD
  refine lv_aload_n hx hb dX0_init_63 rfl (lv_at hl 0 rfl) ?_
  refine lv_iconst (v := nI 4) hx hb dX0_init_64 (by decide) ?_
  refine va_newa (atype := .int) (a0 := (4, .inl z0)) (N' := 4) (ty := .int) hx hb (hts (.arrayClass .int) (List.mem_of_getElem? (i := 4) rfl)) rfl hK hP hD hS hA (fun _ => rfl) (nI_pos (by omega)) (nI_clamp (by omega)) (by show 4 * 4 ≤ 536870912; omega) (by show 6 + 1 ≤ 8; omega) (by show 813 + 4 ≤ 833; omega) dX0_init_65 (fun q7 k7 H hK hP hD hS => ?_)
  have hK : va_K (dC, dI) vwCl [(k1, .int), (k2, .int), (k3, .int), (k4, .boolean), (k5, .boolean), (k6, .int), (k7, .int)] s := hK
  have hP : va_P (dC, dI) vwCl [(h0, .inr (0, [.ref q1, .ref q2, .ref q3, .ref q4, .ref q5, .int (nI 0), .ref q6, .int (nI 1), .null, .null, .int 0, .int 0, .int 0])), (q1, .inl (k1, 60, .inl z0)), (q2, .inl (k2, 60, .inl z0)), (q3, .inl (k3, 60, .inl z0)), (q4, .inl (k4, 60, .inl z0)), (q5, .inl (k5, 60, .inl z0)), (q6, .inl (k6, 513, .inl z0)), (q7, .inl (k7, 4, .inl z0))] H := hP
  have hD : va_D A [(h0, .inr (0, [.ref q1, .ref q2, .ref q3, .ref q4, .ref q5, .int (nI 0), .ref q6, .int (nI 1), .null, .null, .int 0, .int 0, .int 0])), (q1, .inl (k1, 60, .inl z0)), (q2, .inl (k2, 60, .inl z0)), (q3, .inl (k3, 60, .inl z0)), (q4, .inl (k4, 60, .inl z0)), (q5, .inl (k5, 60, .inl z0)), (q6, .inl (k6, 513, .inl z0)), (q7, .inl (k7, 4, .inl z0))] := hD
  refine W.widen (k := 7) (n := 817) (by omega) (by omega) ?_
  refine va_putF (D := (dC, dI)) (ci := 0) (v := .ref q7) (ty := .array .int) (C := RX0) (T := TX0) (N := 13) hx hb h00 (fun _ h => h) tyX0 tyX0_ok nmX0 hown hK hP hD hS 0 rfl rfl 8 (by decide) (hts (.fieldLink RX0 36 "SegmentLog" "positions" "[I") (List.mem_of_getElem? (i := 14) rfl)) (fun _ h9 => h9) rfl hin rfl (by decide +kernel) rfl rfl (Nat.le_of_ble_eq_true rfl) dX0_init_67 (fun H locs hP hD hS => ?_)
  have hP : va_P (dC, dI) vwCl [(h0, .inr (0, [.ref q1, .ref q2, .ref q3, .ref q4, .ref q5, .int (nI 0), .ref q6, .int (nI 1), .ref q7, .null, .int 0, .int 0, .int 0])), (q1, .inl (k1, 60, .inl z0)), (q2, .inl (k2, 60, .inl z0)), (q3, .inl (k3, 60, .inl z0)), (q4, .inl (k4, 60, .inl z0)), (q5, .inl (k5, 60, .inl z0)), (q6, .inl (k6, 513, .inl z0)), (q7, .inl (k7, 4, .inl z0))] H := hP
  have hD : va_D A [(h0, .inr (0, [.ref q1, .ref q2, .ref q3, .ref q4, .ref q5, .int (nI 0), .ref q6, .int (nI 1), .ref q7, .null, .int 0, .int 0, .int 0])), (q1, .inl (k1, 60, .inl z0)), (q2, .inl (k2, 60, .inl z0)), (q3, .inl (k3, 60, .inl z0)), (q4, .inl (k4, 60, .inl z0)), (q5, .inl (k5, 60, .inl z0)), (q6, .inl (k6, 513, .inl z0)), (q7, .inl (k7, 4, .inl z0))] := hD
  refine lv_aload_n hx hb dX0_init_70 rfl (lv_at hl 0 rfl) ?_
  refine lv_bipush (v := nI 16) hx hb dX0_init_71 (by decide) ?_
  refine va_newa (atype := .int) (a0 := (16, .inl z0)) (N' := 16) (ty := .int) hx hb (hts (.arrayClass .int) (List.mem_of_getElem? (i := 4) rfl)) rfl hK hP hD hS hA (fun _ => rfl) (nI_pos (by omega)) (nI_clamp (by omega)) (by show 16 * 4 ≤ 536870912; omega) (by show 7 + 1 ≤ 8; omega) (by show 817 + 16 ≤ 833; omega) dX0_init_73 (fun q8 k8 H hK hP hD hS => ?_)
  have hK : va_K (dC, dI) vwCl [(k1, .int), (k2, .int), (k3, .int), (k4, .boolean), (k5, .boolean), (k6, .int), (k7, .int), (k8, .int)] s := hK
  have hP : va_P (dC, dI) vwCl [(h0, .inr (0, [.ref q1, .ref q2, .ref q3, .ref q4, .ref q5, .int (nI 0), .ref q6, .int (nI 1), .ref q7, .null, .int 0, .int 0, .int 0])), (q1, .inl (k1, 60, .inl z0)), (q2, .inl (k2, 60, .inl z0)), (q3, .inl (k3, 60, .inl z0)), (q4, .inl (k4, 60, .inl z0)), (q5, .inl (k5, 60, .inl z0)), (q6, .inl (k6, 513, .inl z0)), (q7, .inl (k7, 4, .inl z0)), (q8, .inl (k8, 16, .inl z0))] H := hP
  have hD : va_D A [(h0, .inr (0, [.ref q1, .ref q2, .ref q3, .ref q4, .ref q5, .int (nI 0), .ref q6, .int (nI 1), .ref q7, .null, .int 0, .int 0, .int 0])), (q1, .inl (k1, 60, .inl z0)), (q2, .inl (k2, 60, .inl z0)), (q3, .inl (k3, 60, .inl z0)), (q4, .inl (k4, 60, .inl z0)), (q5, .inl (k5, 60, .inl z0)), (q6, .inl (k6, 513, .inl z0)), (q7, .inl (k7, 4, .inl z0)), (q8, .inl (k8, 16, .inl z0))] := hD
  refine W.widen (k := 8) (n := 833) (by omega) (by omega) ?_
  refine va_putF (D := (dC, dI)) (ci := 0) (v := .ref q8) (ty := .array .int) (C := RX0) (T := TX0) (N := 13) hx hb h00 (fun _ h => h) tyX0 tyX0_ok nmX0 hown hK hP hD hS 0 rfl rfl 9 (by decide) (hts (.fieldLink RX0 39 "SegmentLog" "latestIndex" "[I") (List.mem_of_getElem? (i := 15) rfl)) (fun _ h9 => h9) rfl hin rfl (by decide +kernel) rfl rfl (Nat.le_of_ble_eq_true rfl) dX0_init_75 (fun H locs hP hD hS => ?_)
  have hP : va_P (dC, dI) vwCl [(h0, .inr (0, [.ref q1, .ref q2, .ref q3, .ref q4, .ref q5, .int (nI 0), .ref q6, .int (nI 1), .ref q7, .ref q8, .int 0, .int 0, .int 0])), (q1, .inl (k1, 60, .inl z0)), (q2, .inl (k2, 60, .inl z0)), (q3, .inl (k3, 60, .inl z0)), (q4, .inl (k4, 60, .inl z0)), (q5, .inl (k5, 60, .inl z0)), (q6, .inl (k6, 513, .inl z0)), (q7, .inl (k7, 4, .inl z0)), (q8, .inl (k8, 16, .inl z0))] H := hP
  have hD : va_D A [(h0, .inr (0, [.ref q1, .ref q2, .ref q3, .ref q4, .ref q5, .int (nI 0), .ref q6, .int (nI 1), .ref q7, .ref q8, .int 0, .int 0, .int 0])), (q1, .inl (k1, 60, .inl z0)), (q2, .inl (k2, 60, .inl z0)), (q3, .inl (k3, 60, .inl z0)), (q4, .inl (k4, 60, .inl z0)), (q5, .inl (k5, 60, .inl z0)), (q6, .inl (k6, 513, .inl z0)), (q7, .inl (k7, 4, .inl z0)), (q8, .inl (k8, 16, .inl z0))] := hD
  refine lv_aload_n hx hb dX0_init_78 rfl (lv_at hl 0 rfl) ?_
  refine lv_iconst (v := nI 0) hx hb dX0_init_79 (by decide) ?_
  refine va_put (D := (dC, dI)) (ci := 0) (v := .int (nI 0)) (ty := .int) (C := RX0) (T := TX0) (N := 13) hx hb h00 (fun _ h => h) tyX0 tyX0_ok nmX0 hown hK hP hD hS 0 rfl rfl 10 (by decide) (hts (.fieldLink RX0 42 "SegmentLog" "startOffset" "I") (List.mem_of_getElem? (i := 16) rfl)) (fun _ h9 => h9) rfl rfl rfl rfl (Nat.le_of_ble_eq_true rfl) dX0_init_80 (fun H locs hP hD hS => ?_)
  have hP : va_P (dC, dI) vwCl [(h0, .inr (0, [.ref q1, .ref q2, .ref q3, .ref q4, .ref q5, .int (nI 0), .ref q6, .int (nI 1), .ref q7, .ref q8, .int (nI 0), .int 0, .int 0])), (q1, .inl (k1, 60, .inl z0)), (q2, .inl (k2, 60, .inl z0)), (q3, .inl (k3, 60, .inl z0)), (q4, .inl (k4, 60, .inl z0)), (q5, .inl (k5, 60, .inl z0)), (q6, .inl (k6, 513, .inl z0)), (q7, .inl (k7, 4, .inl z0)), (q8, .inl (k8, 16, .inl z0))] H := hP
  have hD : va_D A [(h0, .inr (0, [.ref q1, .ref q2, .ref q3, .ref q4, .ref q5, .int (nI 0), .ref q6, .int (nI 1), .ref q7, .ref q8, .int (nI 0), .int 0, .int 0])), (q1, .inl (k1, 60, .inl z0)), (q2, .inl (k2, 60, .inl z0)), (q3, .inl (k3, 60, .inl z0)), (q4, .inl (k4, 60, .inl z0)), (q5, .inl (k5, 60, .inl z0)), (q6, .inl (k6, 513, .inl z0)), (q7, .inl (k7, 4, .inl z0)), (q8, .inl (k8, 16, .inl z0))] := hD
  refine lv_aload_n hx hb dX0_init_83 rfl (lv_at hl 0 rfl) ?_
  refine lv_iconst (v := nI 0) hx hb dX0_init_84 (by decide) ?_
  refine va_put (D := (dC, dI)) (ci := 0) (v := .int (nI 0)) (ty := .int) (C := RX0) (T := TX0) (N := 13) hx hb h00 (fun _ h => h) tyX0 tyX0_ok nmX0 hown hK hP hD hS 0 rfl rfl 11 (by decide) (hts (.fieldLink RX0 45 "SegmentLog" "endOffset" "I") (List.mem_of_getElem? (i := 17) rfl)) (fun _ h9 => h9) rfl rfl rfl rfl (Nat.le_of_ble_eq_true rfl) dX0_init_85 (fun H locs hP hD hS => ?_)
  have hP : va_P (dC, dI) vwCl [(h0, .inr (0, [.ref q1, .ref q2, .ref q3, .ref q4, .ref q5, .int (nI 0), .ref q6, .int (nI 1), .ref q7, .ref q8, .int (nI 0), .int (nI 0), .int 0])), (q1, .inl (k1, 60, .inl z0)), (q2, .inl (k2, 60, .inl z0)), (q3, .inl (k3, 60, .inl z0)), (q4, .inl (k4, 60, .inl z0)), (q5, .inl (k5, 60, .inl z0)), (q6, .inl (k6, 513, .inl z0)), (q7, .inl (k7, 4, .inl z0)), (q8, .inl (k8, 16, .inl z0))] H := hP
  have hD : va_D A [(h0, .inr (0, [.ref q1, .ref q2, .ref q3, .ref q4, .ref q5, .int (nI 0), .ref q6, .int (nI 1), .ref q7, .ref q8, .int (nI 0), .int (nI 0), .int 0])), (q1, .inl (k1, 60, .inl z0)), (q2, .inl (k2, 60, .inl z0)), (q3, .inl (k3, 60, .inl z0)), (q4, .inl (k4, 60, .inl z0)), (q5, .inl (k5, 60, .inl z0)), (q6, .inl (k6, 513, .inl z0)), (q7, .inl (k7, 4, .inl z0)), (q8, .inl (k8, 16, .inl z0))] := hD
  refine lv_aload_n hx hb dX0_init_88 rfl (lv_at hl 0 rfl) ?_
  refine lv_iconst (v := nI 0) hx hb dX0_init_89 (by decide) ?_
  refine va_put (D := (dC, dI)) (ci := 0) (v := .int (nI 0)) (ty := .int) (C := RX0) (T := TX0) (N := 13) hx hb h00 (fun _ h => h) tyX0 tyX0_ok nmX0 hown hK hP hD hS 0 rfl rfl 12 (by decide) (hts (.fieldLink RX0 48 "SegmentLog" "durableOffset" "I") (List.mem_of_getElem? (i := 18) rfl)) (fun _ h9 => h9) rfl rfl rfl rfl (Nat.le_of_ble_eq_true rfl) dX0_init_90 (fun H locs hP hD hS => ?_)
  have hP : va_P (dC, dI) vwCl [(h0, .inr (0, [.ref q1, .ref q2, .ref q3, .ref q4, .ref q5, .int (nI 0), .ref q6, .int (nI 1), .ref q7, .ref q8, .int (nI 0), .int (nI 0), .int (nI 0)])), (q1, .inl (k1, 60, .inl z0)), (q2, .inl (k2, 60, .inl z0)), (q3, .inl (k3, 60, .inl z0)), (q4, .inl (k4, 60, .inl z0)), (q5, .inl (k5, 60, .inl z0)), (q6, .inl (k6, 513, .inl z0)), (q7, .inl (k7, 4, .inl z0)), (q8, .inl (k8, 16, .inl z0))] H := hP
  have hD : va_D A [(h0, .inr (0, [.ref q1, .ref q2, .ref q3, .ref q4, .ref q5, .int (nI 0), .ref q6, .int (nI 1), .ref q7, .ref q8, .int (nI 0), .int (nI 0), .int (nI 0)])), (q1, .inl (k1, 60, .inl z0)), (q2, .inl (k2, 60, .inl z0)), (q3, .inl (k3, 60, .inl z0)), (q4, .inl (k4, 60, .inl z0)), (q5, .inl (k5, 60, .inl z0)), (q6, .inl (k6, 513, .inl z0)), (q7, .inl (k7, 4, .inl z0)), (q8, .inl (k8, 16, .inl z0))] := hD
  obtain rfl := kt_same hK (i := 0) (j := 1) rfl rfl
  obtain rfl := kt_same hK (i := 0) (j := 2) rfl rfl
  obtain rfl := kt_same hK (i := 0) (j := 5) rfl rfl
  obtain rfl := kt_same hK (i := 0) (j := 6) rfl rfl
  obtain rfl := kt_same hK (i := 0) (j := 7) rfl rfl
  obtain rfl := kt_sameZ hK (i := 3) (j := 4) rfl rfl
  have hK9 := hK.sub (tys' := kt k1 k4) [0, 3] rfl
  have hP9 : va_P (dC, dI) vwCl (w0 k1 k4 (ad9 h0 q1 q2 q3 q4 q5 q6 q7 q8) (0, 1, 0, 0, 0, z0, z0, z0, z0, z0, z0, z0, z0)) H := hP
  have hD9 : va_D A (w0 k1 k4 (ad9 h0 q1 q2 q3 q4 q5 q6 q7 q8) (0, 1, 0, 0, 0, z0, z0, z0, z0, z0, z0, z0, z0)) := hD
  exact W.vret hx hb hr (fun t ht hW => ⟨⟨(k1, k4, (ad9 h0 q1 q2 q3 q4 q5 q6 q7 q8)), rfl, rfl, by rw [ht]; exact hP9, va_K.moved hW.alike hK9, hD9⟩, hS.F ht⟩) hS.2.2 dX0_init_93
set_option maxHeartbeats 400000 in
set_option maxRecDepth 100000 in
theorem c1_init (l : Launch) (dC : Nat → ClassId) (dI : Nat → Nat → Nat) (h0 sz : Nat) : Met l yX1_init wsX1_init ({ frames := 1, cells := 8, slots := 29404, locals := 12 } : Room) (va_Pc [.ref h0] (fun U => U.heap.size = sz ∧ va_P (dC, dI) vwCl [(h0, .inr (1, [.null, .null, .null, .null, .null, .null, .int 0, .int 0, .int 0, .int 0, .int 0, .null, .null]))] U.heap ∧ va_K (dC, dI) vwCl [] U ∧ va_D (fun _ => True) [(h0, .inr (1, [.null, .null, .null, .null, .null, .null, .int 0, .int 0, .int 0, .int 0, .int 0, .null, .null]))])) (va_Qv (fun u : ClassId × ClassId × (Nat → Nat) => u.2.2 0 = h0) (fun u t => at1 dC dI u.1 u.2.1 u.2.2 (va_A [(h0, .inr (1, [.null, .null, .null, .null, .null, .null, .int 0, .int 0, .int 0, .int 0, .int 0, .null, .null]))] sz) (1, 0, 0, 0, 0, z0, z0, z0, z0, z0, z0, z0, z0) t) (va_A [(h0, .inr (1, [.null, .null, .null, .null, .null, .null, .int 0, .int 0, .int 0, .int 0, .int 0, .null, .null]))] sz)) 8 29404 (va_A [(h0, .inr (1, [.null, .null, .null, .null, .null, .null, .int 0, .int 0, .int 0, .int 0, .int 0, .null, .null]))] sz) := by
  refine Met.ofW (cc := cX1_init) (maxL := 1) (ret := none) (by decide) rfl ?_
  intro p e s m args below meth c s₁ B hml hv
  obtain ⟨rfl, hsz, hP, hK, hD0⟩ := hv
  have hx := B.exec
  have hb := B.bytes
  have hr := B.returns
  have hts := atoms_spec (ws := wsX1_init) B.pre
  have hown : s.vm.findClass RX1 = some m.cls := findClass_of_methodNamed B.named
  have hlocks := B.notSynchronized
  have hin : meth.name = "<init>" := (name_of_methodNamed B.named B.method).1
  have h00 : ∀ w ∈ wsX10, w.before _ s = true := fun w h => hts w (List.mem_cons_of_mem _ (List.mem_append_right _ h))
  subst hsz
  have hD := hD0.self (sz := s.heap.size)
  generalize hAe : va_A [(h0, .inr (1, [.null, .null, .null, .null, .null, .null, .int 0, .int 0, .int 0, .int 0, .int 0, .null, .null]))] s.heap.size = A at hD ⊢
  have hA : ∀ q : Nat, s.heap.size ≤ q → A q := fun q h => by rw [← hAe]; exact Or.inr h
  have hS : va_S A s.heap s.heap [] := va_S.rf
  have hP : va_P (dC, dI) vwCl [(h0, .inr (1, [.null, .null, .null, .null, .null, .null, .int 0, .int 0, .int 0, .int 0, .int 0, .null, .null]))] s.heap := hP
  have hl := lv_entry ([.ref h0]) (n := 1) (Nat.le_of_ble_eq_true rfl)
  rw [lg_entry_eq]
  generalize (lg_sl ([.ref h0]) ++ List.replicate (1 - (lg_sl ([.ref h0])).length) Slot.unset).toArray = ls at hl ⊢
  have hl : lv_has ls 1 [(0, .ref h0)] := hl
  refine lv_aload_n hx hb dX1_init_0 rfl (lv_at hl 0 rfl) ?_
  refine W.objInit hx hb hown (hts (.methodLink RX1 1 objectInit) (List.mem_of_getElem? (i := 1) rfl)) (hts (.instanceMethod objectInit) (List.mem_of_getElem? (i := 2) rfl)) (hts (.code objectInit ⟨#[0xb1]⟩ 1 none) (List.mem_of_getElem? (i := 3) rfl)) rfl (by rw [hml]; exact hl.1) rfl dX1_init_1 (Nat.le_of_ble_eq_true rfl) (Nat.le_of_ble_eq_true rfl) ?_
  refine W.eq (g2 := F0 m 4 ls []) rfl ?_
  refine lv_aload_n hx hb dX1_init_4 rfl (lv_at hl 0 rfl) ?_
  refine lv_sipush (v := nI 4200) hx hb dX1_init_5 (by decide) ?_
  refine va_newa (atype := .int) (a0 := (4200, .inl z0)) (N' := 4200) (ty := .int) hx hb (hts (.arrayClass .int) (List.mem_of_getElem? (i := 4) rfl)) rfl hK hP hD hS hA (fun _ => rfl) (nI_pos (by omega)) (nI_clamp (by omega)) (by show 4200 * 4 ≤ 536870912; omega) (by show 0 + 1 ≤ 8; omega) (by show 0 + 4200 ≤ 29404; omega) dX1_init_8 (fun q1 k1 H hK hP hD hS => ?_)
  have hK : va_K (dC, dI) vwCl [(k1, .int)] s := hK
  have hP : va_P (dC, dI) vwCl [(h0, .inr (1, [.null, .null, .null, .null, .null, .null, .int 0, .int 0, .int 0, .int 0, .int 0, .null, .null])), (q1, .inl (k1, 4200, .inl z0))] H := hP
  have hD : va_D A [(h0, .inr (1, [.null, .null, .null, .null, .null, .null, .int 0, .int 0, .int 0, .int 0, .int 0, .null, .null])), (q1, .inl (k1, 4200, .inl z0))] := hD
  refine W.widen (k := 1) (n := 4200) (by omega) (by omega) ?_
  refine va_putF (D := (dC, dI)) (ci := 1) (v := .ref q1) (ty := .array .int) (C := RX1) (T := TX1) (N := 13) hx hb h00 (fun _ h => h) tyX1 tyX1_ok nmX1 hown hK hP hD hS 0 rfl rfl 0 (by decide) (hts (.fieldLink RX1 9 "SegmentLogModel" "keys" "[I") (List.mem_of_getElem? (i := 5) rfl)) (fun _ h9 => h9) rfl hin rfl (by decide +kernel) rfl rfl (Nat.le_of_ble_eq_true rfl) dX1_init_10 (fun H locs hP hD hS => ?_)
  have hP : va_P (dC, dI) vwCl [(h0, .inr (1, [.ref q1, .null, .null, .null, .null, .null, .int 0, .int 0, .int 0, .int 0, .int 0, .null, .null])), (q1, .inl (k1, 4200, .inl z0))] H := hP
  have hD : va_D A [(h0, .inr (1, [.ref q1, .null, .null, .null, .null, .null, .int 0, .int 0, .int 0, .int 0, .int 0, .null, .null])), (q1, .inl (k1, 4200, .inl z0))] := hD
  refine lv_aload_n hx hb dX1_init_13 rfl (lv_at hl 0 rfl) ?_
  refine lv_sipush (v := nI 4200) hx hb dX1_init_14 (by decide) ?_
  refine va_newa (atype := .int) (a0 := (4200, .inl z0)) (N' := 4200) (ty := .int) hx hb (hts (.arrayClass .int) (List.mem_of_getElem? (i := 4) rfl)) rfl hK hP hD hS hA (fun _ => rfl) (nI_pos (by omega)) (nI_clamp (by omega)) (by show 4200 * 4 ≤ 536870912; omega) (by show 1 + 1 ≤ 8; omega) (by show 4200 + 4200 ≤ 29404; omega) dX1_init_17 (fun q2 k2 H hK hP hD hS => ?_)
  have hK : va_K (dC, dI) vwCl [(k1, .int), (k2, .int)] s := hK
  have hP : va_P (dC, dI) vwCl [(h0, .inr (1, [.ref q1, .null, .null, .null, .null, .null, .int 0, .int 0, .int 0, .int 0, .int 0, .null, .null])), (q1, .inl (k1, 4200, .inl z0)), (q2, .inl (k2, 4200, .inl z0))] H := hP
  have hD : va_D A [(h0, .inr (1, [.ref q1, .null, .null, .null, .null, .null, .int 0, .int 0, .int 0, .int 0, .int 0, .null, .null])), (q1, .inl (k1, 4200, .inl z0)), (q2, .inl (k2, 4200, .inl z0))] := hD
  refine W.widen (k := 2) (n := 8400) (by omega) (by omega) ?_
  refine va_putF (D := (dC, dI)) (ci := 1) (v := .ref q2) (ty := .array .int) (C := RX1) (T := TX1) (N := 13) hx hb h00 (fun _ h => h) tyX1 tyX1_ok nmX1 hown hK hP hD hS 0 rfl rfl 1 (by decide) (hts (.fieldLink RX1 13 "SegmentLogModel" "values" "[I") (List.mem_of_getElem? (i := 6) rfl)) (fun _ h9 => h9) rfl hin rfl (by decide +kernel) rfl rfl (Nat.le_of_ble_eq_true rfl) dX1_init_19 (fun H locs hP hD hS => ?_)
  have hP : va_P (dC, dI) vwCl [(h0, .inr (1, [.ref q1, .ref q2, .null, .null, .null, .null, .int 0, .int 0, .int 0, .int 0, .int 0, .null, .null])), (q1, .inl (k1, 4200, .inl z0)), (q2, .inl (k2, 4200, .inl z0))] H := hP
  have hD : va_D A [(h0, .inr (1, [.ref q1, .ref q2, .null, .null, .null, .null, .int 0, .int 0, .int 0, .int 0, .int 0, .null, .null])), (q1, .inl (k1, 4200, .inl z0)), (q2, .inl (k2, 4200, .inl z0))] := hD
  refine lv_aload_n hx hb dX1_init_22 rfl (lv_at hl 0 rfl) ?_
  refine lv_sipush (v := nI 4200) hx hb dX1_init_23 (by decide) ?_
  refine va_newa (atype := .boolean) (a0 := (4200, .inl z0)) (N' := 4200) (ty := .boolean) hx hb (hts (.arrayClass .boolean) (List.mem_of_getElem? (i := 7) rfl)) rfl hK hP hD hS hA (fun _ => rfl) (nI_pos (by omega)) (nI_clamp (by omega)) (by show 4200 * 1 ≤ 536870912; omega) (by show 2 + 1 ≤ 8; omega) (by show 8400 + 4200 ≤ 29404; omega) dX1_init_26 (fun q3 k3 H hK hP hD hS => ?_)
  have hK : va_K (dC, dI) vwCl [(k1, .int), (k2, .int), (k3, .boolean)] s := hK
  have hP : va_P (dC, dI) vwCl [(h0, .inr (1, [.ref q1, .ref q2, .null, .null, .null, .null, .int 0, .int 0, .int 0, .int 0, .int 0, .null, .null])), (q1, .inl (k1, 4200, .inl z0)), (q2, .inl (k2, 4200, .inl z0)), (q3, .inl (k3, 4200, .inl z0))] H := hP
  have hD : va_D A [(h0, .inr (1, [.ref q1, .ref q2, .null, .null, .null, .null, .int 0, .int 0, .int 0, .int 0, .int 0, .null, .null])), (q1, .inl (k1, 4200, .inl z0)), (q2, .inl (k2, 4200, .inl z0)), (q3, .inl (k3, 4200, .inl z0))] := hD
  refine W.widen (k := 3) (n := 12600) (by omega) (by omega) ?_
  refine va_putF (D := (dC, dI)) (ci := 1) (v := .ref q3) (ty := .array .boolean) (C := RX1) (T := TX1) (N := 13) hx hb h00 (fun _ h => h) tyX1 tyX1_ok nmX1 hown hK hP hD hS 0 rfl rfl 2 (by decide) (hts (.fieldLink RX1 16 "SegmentLogModel" "removal" "[Z") (List.mem_of_getElem? (i := 8) rfl)) (fun _ h9 => h9) rfl hin rfl (by decide +kernel) rfl rfl (Nat.le_of_ble_eq_true rfl) dX1_init_28 (fun H locs hP hD hS => ?_)
  have hP : va_P (dC, dI) vwCl [(h0, .inr (1, [.ref q1, .ref q2, .ref q3, .null, .null, .null, .int 0, .int 0, .int 0, .int 0, .int 0, .null, .null])), (q1, .inl (k1, 4200, .inl z0)), (q2, .inl (k2, 4200, .inl z0)), (q3, .inl (k3, 4200, .inl z0))] H := hP
  have hD : va_D A [(h0, .inr (1, [.ref q1, .ref q2, .ref q3, .null, .null, .null, .int 0, .int 0, .int 0, .int 0, .int 0, .null, .null])), (q1, .inl (k1, 4200, .inl z0)), (q2, .inl (k2, 4200, .inl z0)), (q3, .inl (k3, 4200, .inl z0))] := hD
  refine lv_aload_n hx hb dX1_init_31 rfl (lv_at hl 0 rfl) ?_
  refine lv_sipush (v := nI 4200) hx hb dX1_init_32 (by decide) ?_
  refine va_newa (atype := .boolean) (a0 := (4200, .inl z0)) (N' := 4200) (ty := .boolean) hx hb (hts (.arrayClass .boolean) (List.mem_of_getElem? (i := 7) rfl)) rfl hK hP hD hS hA (fun _ => rfl) (nI_pos (by omega)) (nI_clamp (by omega)) (by show 4200 * 1 ≤ 536870912; omega) (by show 3 + 1 ≤ 8; omega) (by show 12600 + 4200 ≤ 29404; omega) dX1_init_35 (fun q4 k4 H hK hP hD hS => ?_)
  have hK : va_K (dC, dI) vwCl [(k1, .int), (k2, .int), (k3, .boolean), (k4, .boolean)] s := hK
  have hP : va_P (dC, dI) vwCl [(h0, .inr (1, [.ref q1, .ref q2, .ref q3, .null, .null, .null, .int 0, .int 0, .int 0, .int 0, .int 0, .null, .null])), (q1, .inl (k1, 4200, .inl z0)), (q2, .inl (k2, 4200, .inl z0)), (q3, .inl (k3, 4200, .inl z0)), (q4, .inl (k4, 4200, .inl z0))] H := hP
  have hD : va_D A [(h0, .inr (1, [.ref q1, .ref q2, .ref q3, .null, .null, .null, .int 0, .int 0, .int 0, .int 0, .int 0, .null, .null])), (q1, .inl (k1, 4200, .inl z0)), (q2, .inl (k2, 4200, .inl z0)), (q3, .inl (k3, 4200, .inl z0)), (q4, .inl (k4, 4200, .inl z0))] := hD
  refine W.widen (k := 4) (n := 16800) (by omega) (by omega) ?_
  refine va_putF (D := (dC, dI)) (ci := 1) (v := .ref q4) (ty := .array .boolean) (C := RX1) (T := TX1) (N := 13) hx hb h00 (fun _ h => h) tyX1 tyX1_ok nmX1 hown hK hP hD hS 0 rfl rfl 3 (by decide) (hts (.fieldLink RX1 20 "SegmentLogModel" "there" "[Z") (List.mem_of_getElem? (i := 9) rfl)) (fun _ h9 => h9) rfl hin rfl (by decide +kernel) rfl rfl (Nat.le_of_ble_eq_true rfl) dX1_init_37 (fun H locs hP hD hS => ?_)
  have hP : va_P (dC, dI) vwCl [(h0, .inr (1, [.ref q1, .ref q2, .ref q3, .ref q4, .null, .null, .int 0, .int 0, .int 0, .int 0, .int 0, .null, .null])), (q1, .inl (k1, 4200, .inl z0)), (q2, .inl (k2, 4200, .inl z0)), (q3, .inl (k3, 4200, .inl z0)), (q4, .inl (k4, 4200, .inl z0))] H := hP
  have hD : va_D A [(h0, .inr (1, [.ref q1, .ref q2, .ref q3, .ref q4, .null, .null, .int 0, .int 0, .int 0, .int 0, .int 0, .null, .null])), (q1, .inl (k1, 4200, .inl z0)), (q2, .inl (k2, 4200, .inl z0)), (q3, .inl (k3, 4200, .inl z0)), (q4, .inl (k4, 4200, .inl z0))] := hD
  refine lv_aload_n hx hb dX1_init_40 rfl (lv_at hl 0 rfl) ?_
  refine lv_sipush (v := nI 4200) hx hb dX1_init_41 (by decide) ?_
  refine va_newa (atype := .boolean) (a0 := (4200, .inl z0)) (N' := 4200) (ty := .boolean) hx hb (hts (.arrayClass .boolean) (List.mem_of_getElem? (i := 7) rfl)) rfl hK hP hD hS hA (fun _ => rfl) (nI_pos (by omega)) (nI_clamp (by omega)) (by show 4200 * 1 ≤ 536870912; omega) (by show 4 + 1 ≤ 8; omega) (by show 16800 + 4200 ≤ 29404; omega) dX1_init_44 (fun q5 k5 H hK hP hD hS => ?_)
  have hK : va_K (dC, dI) vwCl [(k1, .int), (k2, .int), (k3, .boolean), (k4, .boolean), (k5, .boolean)] s := hK
  have hP : va_P (dC, dI) vwCl [(h0, .inr (1, [.ref q1, .ref q2, .ref q3, .ref q4, .null, .null, .int 0, .int 0, .int 0, .int 0, .int 0, .null, .null])), (q1, .inl (k1, 4200, .inl z0)), (q2, .inl (k2, 4200, .inl z0)), (q3, .inl (k3, 4200, .inl z0)), (q4, .inl (k4, 4200, .inl z0)), (q5, .inl (k5, 4200, .inl z0))] H := hP
  have hD : va_D A [(h0, .inr (1, [.ref q1, .ref q2, .ref q3, .ref q4, .null, .null, .int 0, .int 0, .int 0, .int 0, .int 0, .null, .null])), (q1, .inl (k1, 4200, .inl z0)), (q2, .inl (k2, 4200, .inl z0)), (q3, .inl (k3, 4200, .inl z0)), (q4, .inl (k4, 4200, .inl z0)), (q5, .inl (k5, 4200, .inl z0))] := hD
  refine W.widen (k := 5) (n := 21000) (by omega) (by omega) ?_
  refine va_putF (D := (dC, dI)) (ci := 1) (v := .ref q5) (ty := .array .boolean) (C := RX1) (T := TX1) (N := 13) hx hb h00 (fun _ h => h) tyX1 tyX1_ok nmX1 hown hK hP hD hS 0 rfl rfl 4 (by decide) (hts (.fieldLink RX1 23 "SegmentLogModel" "left" "[Z") (List.mem_of_getElem? (i := 10) rfl)) (fun _ h9 => h9) rfl hin rfl (by decide +kernel) rfl rfl (Nat.le_of_ble_eq_true rfl) dX1_init_46 (fun H locs hP hD hS => ?_)
  have hP : va_P (dC, dI) vwCl [(h0, .inr (1, [.ref q1, .ref q2, .ref q3, .ref q4, .ref q5, .null, .int 0, .int 0, .int 0, .int 0, .int 0, .null, .null])), (q1, .inl (k1, 4200, .inl z0)), (q2, .inl (k2, 4200, .inl z0)), (q3, .inl (k3, 4200, .inl z0)), (q4, .inl (k4, 4200, .inl z0)), (q5, .inl (k5, 4200, .inl z0))] H := hP
  have hD : va_D A [(h0, .inr (1, [.ref q1, .ref q2, .ref q3, .ref q4, .ref q5, .null, .int 0, .int 0, .int 0, .int 0, .int 0, .null, .null])), (q1, .inl (k1, 4200, .inl z0)), (q2, .inl (k2, 4200, .inl z0)), (q3, .inl (k3, 4200, .inl z0)), (q4, .inl (k4, 4200, .inl z0)), (q5, .inl (k5, 4200, .inl z0))] := hD
  refine lv_aload_n hx hb dX1_init_49 rfl (lv_at hl 0 rfl) ?_
  refine lv_sipush (v := nI 4200) hx hb dX1_init_50 (by decide) ?_
  refine va_newa (atype := .int) (a0 := (4200, .inl z0)) (N' := 4200) (ty := .int) hx hb (hts (.arrayClass .int) (List.mem_of_getElem? (i := 4) rfl)) rfl hK hP hD hS hA (fun _ => rfl) (nI_pos (by omega)) (nI_clamp (by omega)) (by show 4200 * 4 ≤ 536870912; omega) (by show 5 + 1 ≤ 8; omega) (by show 21000 + 4200 ≤ 29404; omega) dX1_init_53 (fun q6 k6 H hK hP hD hS => ?_)
  have hK : va_K (dC, dI) vwCl [(k1, .int), (k2, .int), (k3, .boolean), (k4, .boolean), (k5, .boolean), (k6, .int)] s := hK
  have hP : va_P (dC, dI) vwCl [(h0, .inr (1, [.ref q1, .ref q2, .ref q3, .ref q4, .ref q5, .null, .int 0, .int 0, .int 0, .int 0, .int 0, .null, .null])), (q1, .inl (k1, 4200, .inl z0)), (q2, .inl (k2, 4200, .inl z0)), (q3, .inl (k3, 4200, .inl z0)), (q4, .inl (k4, 4200, .inl z0)), (q5, .inl (k5, 4200, .inl z0)), (q6, .inl (k6, 4200, .inl z0))] H := hP
  have hD : va_D A [(h0, .inr (1, [.ref q1, .ref q2, .ref q3, .ref q4, .ref q5, .null, .int 0, .int 0, .int 0, .int 0, .int 0, .null, .null])), (q1, .inl (k1, 4200, .inl z0)), (q2, .inl (k2, 4200, .inl z0)), (q3, .inl (k3, 4200, .inl z0)), (q4, .inl (k4, 4200, .inl z0)), (q5, .inl (k5, 4200, .inl z0)), (q6, .inl (k6, 4200, .inl z0))] := hD
  refine W.widen (k := 6) (n := 25200) (by omega) (by omega) ?_
  refine va_putF (D := (dC, dI)) (ci := 1) (v := .ref q6) (ty := .array .int) (C := RX1) (T := TX1) (N := 13) hx hb h00 (fun _ h => h) tyX1 tyX1_ok nmX1 hown hK hP hD hS 0 rfl rfl 5 (by decide) (hts (.fieldLink RX1 26 "SegmentLogModel" "bases" "[I") (List.mem_of_getElem? (i := 11) rfl)) (fun _ h9 => h9) rfl hin rfl (by decide +kernel) rfl rfl (Nat.le_of_ble_eq_true rfl) dX1_init_55 (fun H locs hP hD hS => ?_)
  have hP : va_P (dC, dI) vwCl [(h0, .inr (1, [.ref q1, .ref q2, .ref q3, .ref q4, .ref q5, .ref q6, .int 0, .int 0, .int 0, .int 0, .int 0, .null, .null])), (q1, .inl (k1, 4200, .inl z0)), (q2, .inl (k2, 4200, .inl z0)), (q3, .inl (k3, 4200, .inl z0)), (q4, .inl (k4, 4200, .inl z0)), (q5, .inl (k5, 4200, .inl z0)), (q6, .inl (k6, 4200, .inl z0))] H := hP
  have hD : va_D A [(h0, .inr (1, [.ref q1, .ref q2, .ref q3, .ref q4, .ref q5, .ref q6, .int 0, .int 0, .int 0, .int 0, .int 0, .null, .null])), (q1, .inl (k1, 4200, .inl z0)), (q2, .inl (k2, 4200, .inl z0)), (q3, .inl (k3, 4200, .inl z0)), (q4, .inl (k4, 4200, .inl z0)), (q5, .inl (k5, 4200, .inl z0)), (q6, .inl (k6, 4200, .inl z0))] := hD
  refine lv_aload_n hx hb dX1_init_58 rfl (lv_at hl 0 rfl) ?_
  refine lv_iconst (v := nI 1) hx hb dX1_init_59 (by decide) ?_
  refine va_put (D := (dC, dI)) (ci := 1) (v := .int (nI 1)) (ty := .int) (C := RX1) (T := TX1) (N := 13) hx hb h00 (fun _ h => h) tyX1 tyX1_ok nmX1 hown hK hP hD hS 0 rfl rfl 6 (by decide) (hts (.fieldLink RX1 29 "SegmentLogModel" "segments" "I") (List.mem_of_getElem? (i := 12) rfl)) (fun _ h9 => h9) rfl rfl rfl rfl (Nat.le_of_ble_eq_true rfl) dX1_init_60 (fun H locs hP hD hS => ?_)
  have hP : va_P (dC, dI) vwCl [(h0, .inr (1, [.ref q1, .ref q2, .ref q3, .ref q4, .ref q5, .ref q6, .int (nI 1), .int 0, .int 0, .int 0, .int 0, .null, .null])), (q1, .inl (k1, 4200, .inl z0)), (q2, .inl (k2, 4200, .inl z0)), (q3, .inl (k3, 4200, .inl z0)), (q4, .inl (k4, 4200, .inl z0)), (q5, .inl (k5, 4200, .inl z0)), (q6, .inl (k6, 4200, .inl z0))] H := hP
  have hD : va_D A [(h0, .inr (1, [.ref q1, .ref q2, .ref q3, .ref q4, .ref q5, .ref q6, .int (nI 1), .int 0, .int 0, .int 0, .int 0, .null, .null])), (q1, .inl (k1, 4200, .inl z0)), (q2, .inl (k2, 4200, .inl z0)), (q3, .inl (k3, 4200, .inl z0)), (q4, .inl (k4, 4200, .inl z0)), (q5, .inl (k5, 4200, .inl z0)), (q6, .inl (k6, 4200, .inl z0))] := hD
  refine lv_aload_n hx hb dX1_init_63 rfl (lv_at hl 0 rfl) ?_
  refine lv_iconst (v := nI 4) hx hb dX1_init_64 (by decide) ?_
  refine va_newa (atype := .int) (a0 := (4, .inl z0)) (N' := 4) (ty := .int) hx hb (hts (.arrayClass .int) (List.mem_of_getElem? (i := 4) rfl)) rfl hK hP hD hS hA (fun _ => rfl) (nI_pos (by omega)) (nI_clamp (by omega)) (by show 4 * 4 ≤ 536870912; omega) (by show 6 + 1 ≤ 8; omega) (by show 25200 + 4 ≤ 29404; omega) dX1_init_65 (fun q7 k7 H hK hP hD hS => ?_)
  have hK : va_K (dC, dI) vwCl [(k1, .int), (k2, .int), (k3, .boolean), (k4, .boolean), (k5, .boolean), (k6, .int), (k7, .int)] s := hK
  have hP : va_P (dC, dI) vwCl [(h0, .inr (1, [.ref q1, .ref q2, .ref q3, .ref q4, .ref q5, .ref q6, .int (nI 1), .int 0, .int 0, .int 0, .int 0, .null, .null])), (q1, .inl (k1, 4200, .inl z0)), (q2, .inl (k2, 4200, .inl z0)), (q3, .inl (k3, 4200, .inl z0)), (q4, .inl (k4, 4200, .inl z0)), (q5, .inl (k5, 4200, .inl z0)), (q6, .inl (k6, 4200, .inl z0)), (q7, .inl (k7, 4, .inl z0))] H := hP
  have hD : va_D A [(h0, .inr (1, [.ref q1, .ref q2, .ref q3, .ref q4, .ref q5, .ref q6, .int (nI 1), .int 0, .int 0, .int 0, .int 0, .null, .null])), (q1, .inl (k1, 4200, .inl z0)), (q2, .inl (k2, 4200, .inl z0)), (q3, .inl (k3, 4200, .inl z0)), (q4, .inl (k4, 4200, .inl z0)), (q5, .inl (k5, 4200, .inl z0)), (q6, .inl (k6, 4200, .inl z0)), (q7, .inl (k7, 4, .inl z0))] := hD
  refine W.widen (k := 7) (n := 25204) (by omega) (by omega) ?_
  refine va_putF (D := (dC, dI)) (ci := 1) (v := .ref q7) (ty := .array .int) (C := RX1) (T := TX1) (N := 13) hx hb h00 (fun _ h => h) tyX1 tyX1_ok nmX1 hown hK hP hD hS 0 rfl rfl 11 (by decide) (hts (.fieldLink RX1 33 "SegmentLogModel" "positions" "[I") (List.mem_of_getElem? (i := 13) rfl)) (fun _ h9 => h9) rfl hin rfl (by decide +kernel) rfl rfl (Nat.le_of_ble_eq_true rfl) dX1_init_67 (fun H locs hP hD hS => ?_)
  have hP : va_P (dC, dI) vwCl [(h0, .inr (1, [.ref q1, .ref q2, .ref q3, .ref q4, .ref q5, .ref q6, .int (nI 1), .int 0, .int 0, .int 0, .int 0, .ref q7, .null])), (q1, .inl (k1, 4200, .inl z0)), (q2, .inl (k2, 4200, .inl z0)), (q3, .inl (k3, 4200, .inl z0)), (q4, .inl (k4, 4200, .inl z0)), (q5, .inl (k5, 4200, .inl z0)), (q6, .inl (k6, 4200, .inl z0)), (q7, .inl (k7, 4, .inl z0))] H := hP
  have hD : va_D A [(h0, .inr (1, [.ref q1, .ref q2, .ref q3, .ref q4, .ref q5, .ref q6, .int (nI 1), .int 0, .int 0, .int 0, .int 0, .ref q7, .null])), (q1, .inl (k1, 4200, .inl z0)), (q2, .inl (k2, 4200, .inl z0)), (q3, .inl (k3, 4200, .inl z0)), (q4, .inl (k4, 4200, .inl z0)), (q5, .inl (k5, 4200, .inl z0)), (q6, .inl (k6, 4200, .inl z0)), (q7, .inl (k7, 4, .inl z0))] := hD
  refine lv_aload_n hx hb dX1_init_70 rfl (lv_at hl 0 rfl) ?_
  refine lv_sipush (v := nI 4200) hx hb dX1_init_71 (by decide) ?_
  refine va_newa (atype := .boolean) (a0 := (4200, .inl z0)) (N' := 4200) (ty := .boolean) hx hb (hts (.arrayClass .boolean) (List.mem_of_getElem? (i := 7) rfl)) rfl hK hP hD hS hA (fun _ => rfl) (nI_pos (by omega)) (nI_clamp (by omega)) (by show 4200 * 1 ≤ 536870912; omega) (by show 7 + 1 ≤ 8; omega) (by show 25204 + 4200 ≤ 29404; omega) dX1_init_74 (fun q8 k8 H hK hP hD hS => ?_)
  have hK : va_K (dC, dI) vwCl [(k1, .int), (k2, .int), (k3, .boolean), (k4, .boolean), (k5, .boolean), (k6, .int), (k7, .int), (k8, .boolean)] s := hK
  have hP : va_P (dC, dI) vwCl [(h0, .inr (1, [.ref q1, .ref q2, .ref q3, .ref q4, .ref q5, .ref q6, .int (nI 1), .int 0, .int 0, .int 0, .int 0, .ref q7, .null])), (q1, .inl (k1, 4200, .inl z0)), (q2, .inl (k2, 4200, .inl z0)), (q3, .inl (k3, 4200, .inl z0)), (q4, .inl (k4, 4200, .inl z0)), (q5, .inl (k5, 4200, .inl z0)), (q6, .inl (k6, 4200, .inl z0)), (q7, .inl (k7, 4, .inl z0)), (q8, .inl (k8, 4200, .inl z0))] H := hP
  have hD : va_D A [(h0, .inr (1, [.ref q1, .ref q2, .ref q3, .ref q4, .ref q5, .ref q6, .int (nI 1), .int 0, .int 0, .int 0, .int 0, .ref q7, .null])), (q1, .inl (k1, 4200, .inl z0)), (q2, .inl (k2, 4200, .inl z0)), (q3, .inl (k3, 4200, .inl z0)), (q4, .inl (k4, 4200, .inl z0)), (q5, .inl (k5, 4200, .inl z0)), (q6, .inl (k6, 4200, .inl z0)), (q7, .inl (k7, 4, .inl z0)), (q8, .inl (k8, 4200, .inl z0))] := hD
  refine W.widen (k := 8) (n := 29404) (by omega) (by omega) ?_
  refine va_putF (D := (dC, dI)) (ci := 1) (v := .ref q8) (ty := .array .boolean) (C := RX1) (T := TX1) (N := 13) hx hb h00 (fun _ h => h) tyX1 tyX1_ok nmX1 hown hK hP hD hS 0 rfl rfl 12 (by decide) (hts (.fieldLink RX1 36 "SegmentLogModel" "gone" "[Z") (List.mem_of_getElem? (i := 14) rfl)) (fun _ h9 => h9) rfl hin rfl (by decide +kernel) rfl rfl (Nat.le_of_ble_eq_true rfl) dX1_init_76 (fun H locs hP hD hS => ?_)
  have hP : va_P (dC, dI) vwCl [(h0, .inr (1, [.ref q1, .ref q2, .ref q3, .ref q4, .ref q5, .ref q6, .int (nI 1), .int 0, .int 0, .int 0, .int 0, .ref q7, .ref q8])), (q1, .inl (k1, 4200, .inl z0)), (q2, .inl (k2, 4200, .inl z0)), (q3, .inl (k3, 4200, .inl z0)), (q4, .inl (k4, 4200, .inl z0)), (q5, .inl (k5, 4200, .inl z0)), (q6, .inl (k6, 4200, .inl z0)), (q7, .inl (k7, 4, .inl z0)), (q8, .inl (k8, 4200, .inl z0))] H := hP
  have hD : va_D A [(h0, .inr (1, [.ref q1, .ref q2, .ref q3, .ref q4, .ref q5, .ref q6, .int (nI 1), .int 0, .int 0, .int 0, .int 0, .ref q7, .ref q8])), (q1, .inl (k1, 4200, .inl z0)), (q2, .inl (k2, 4200, .inl z0)), (q3, .inl (k3, 4200, .inl z0)), (q4, .inl (k4, 4200, .inl z0)), (q5, .inl (k5, 4200, .inl z0)), (q6, .inl (k6, 4200, .inl z0)), (q7, .inl (k7, 4, .inl z0)), (q8, .inl (k8, 4200, .inl z0))] := hD
  obtain rfl := kt_same hK (i := 0) (j := 1) rfl rfl
  obtain rfl := kt_same hK (i := 0) (j := 5) rfl rfl
  obtain rfl := kt_same hK (i := 0) (j := 6) rfl rfl
  obtain rfl := kt_sameZ hK (i := 2) (j := 3) rfl rfl
  obtain rfl := kt_sameZ hK (i := 2) (j := 4) rfl rfl
  obtain rfl := kt_sameZ hK (i := 2) (j := 7) rfl rfl
  have hK9 := hK.sub (tys' := kt k1 k3) [0, 2] rfl
  have hP9 : va_P (dC, dI) vwCl (w1 k1 k3 (ad9 h0 q1 q2 q3 q4 q5 q6 q7 q8) (1, 0, 0, 0, 0, z0, z0, z0, z0, z0, z0, z0, z0)) H := hP
  have hD9 : va_D A (w1 k1 k3 (ad9 h0 q1 q2 q3 q4 q5 q6 q7 q8) (1, 0, 0, 0, 0, z0, z0, z0, z0, z0, z0, z0, z0)) := hD
  exact W.vret hx hb hr (fun t ht hW => ⟨⟨(k1, k3, (ad9 h0 q1 q2 q3 q4 q5 q6 q7 q8)), rfl, rfl, by rw [ht]; exact hP9, va_K.moved hW.alike hK9, hD9⟩, hS.F ht⟩) hS.2.2 dX1_init_79
