section LAW
variable {p : Program} {l : Launch} {e : Env} {s : State} {m : MethodId} {below : List Frame} {meth : Method} {c : Code} {dC : Nat → ClassId} {dI : Nat → Nat → Nat} {cI cZ cJ : ClassId} {ad bd : Nat → Nat} {qo b L sa sb : Nat} {xs : Nat → Int32}
set_option maxHeartbeats 4000000 in
set_option maxRecDepth 100000 in
theorem law_622 (hC : lwC p l s m c dC dI cI cZ cJ b L xs sa sb) {i : Nat} (hk : lwG p l e s m below meth c dC dI cI cZ cJ ad bd qo b 23 (i + 1) (i + 1)) : lwG p l e s m below meth c dC dI cI cZ cJ ad bd qo b 622 (i + 1) i := by
  obtain ⟨hx, hb, hml, hown, hts, hX, hbl, hK, hT, hlt, hL⟩ := hC
  intro u0 u1 fl H locs ls hR hP hD hS hl
  refine lv_iinc (v := nI (3 * (i + 1))) (lv' := [(4, .int (nI (3 * (i + 1)))), (0, .ref b), (1, .ref (ad 0)), (2, .ref (bd 0)), (3, .ref qo)]) hx hb dL_law_622 hl (k := 4) rfl (qa_inc3 (3 * i)) (by decide) rfl (fun ls hl => ?_)
  refine lv_goto (tgt := 23) hx hb dL_law_625 (by decide) ?_
  exact hk u0 u1 fl H locs ls hR hP hD hS (lv_sub hl [1, 2, 3, 4, 0] rfl)
set_option maxHeartbeats 4000000 in
set_option maxRecDepth 100000 in
theorem law_step (hC : lwC p l s m c dC dI cI cZ cJ b L xs sa sb) (hr : meth.sig.returnType = ret) (hlocks : meth.locks = false) {i : Nat} (hi0 : 3 * i ≤ L) (ih : 3 * i + 3 ≤ L → lwG p l e s m below meth c dC dI cI cZ cJ ad bd qo b 622 (i + 1) i) : lwG p l e s m below meth c dC dI cI cZ cJ ad bd qo b 23 i i := by
  obtain ⟨hx, hb, hml, hown, hts, hX, hbl, hK, hT, hlt, hL⟩ := id hC
  have hbA : ¬ (fun q : Nat => s.heap.size ≤ q) b := Nat.not_le.mpr hbl
  intro u0 u1 fl H locs ls hR hP hD hS hl
  obtain ⟨n, sc, st, en, du, fo, fk, fv, fr, fc, fb, fp, ft⟩ := u0
  obtain ⟨sg, st1, en1, du1, th, yk, yv, yr, yt, yl, yb, yp, yg⟩ := u1
  obtain ⟨rfl, rfl, rfl, rfl, -⟩ := id hR
  refine lv_iload hx hb dL_law_23 (lv_at hl 4 rfl) ?_
  refine lv_aload_n hx hb dL_law_25 rfl (lv_at hl 0 rfl) ?_
  refine va_slen hx hb hX hbl hbA hS dL_law_26 ?_
  refine lv_iconst (v := nI 3) hx hb dL_law_27 (by decide) ?_
  refine lv_isub hx hb dL_law_28 ?_
  refine lv_icmp_gt (tgt := 628) hx hb dL_law_29 (by decide) (fun c1 => ?_) (fun c1 => ?_)
  · refine lv_iconst (v := 1) hx hb dL_law_628 (by decide) ?_
    refine va_forget (fun q hq => hS.2.2 q hq) ?_
    refine W.widen (k := 1045) (n := 38468) (by omega) (by omega) ?_
    exact lw_ret hx hb hr hlocks dL_law_629
  · have hi : 3 * i + 3 ≤ L := by
      rcases Nat.lt_or_ge L (3 * i + 3) with h | h
      · exfalso
        apply c1
        rw [Int32.lt_iff_toInt_lt]
        have h1 : (Int32.ofNat L - nI 3).toInt = (L : Int) - 3 := pk_sub_toInt (a := L) (b := 3) (by omega) (by omega)
        rw [h1, nI_toInt (by omega)]
        omega
      · exact h
    refine lv_aload_n hx hb dL_law_32 rfl (lv_at hl 0 rfl) ?_
    refine lv_iload hx hb dL_law_33 (lv_at hl 4 rfl) ?_
    refine qa_sld (i := 3 * i) hx hb hX hbl hbA hS (by omega) (by omega) dL_law_35 ?_
    refine lv_bipush (v := nI 31) hx hb dL_law_36 (by decide) ?_
    refine lv_iand hx hb dL_law_38 ?_
    obtain ⟨k, hk, hke⟩ := pk_andE (xs (3 * i)) (m := nI 31) 5 (by decide)
    refine qa_top hke ?_
    rcases (show k = 0 ∨ k = 1 ∨ k = 2 ∨ k = 3 ∨ k = 4 ∨ k = 5 ∨ k = 6 ∨ k = 7 ∨ k = 8 ∨ k = 9 ∨ k = 10 ∨ k = 11 ∨ k = 12 ∨ k = 13 ∨ k = 14 ∨ k = 15 ∨ k = 16 ∨ k = 17 ∨ k = 18 ∨ k = 19 ∨ 20 ≤ k by omega) with rfl | rfl | rfl | rfl | rfl | rfl | rfl | rfl | rfl | rfl | rfl | rfl | rfl | rfl | rfl | rfl | rfl | rfl | rfl | rfl | h20
    · exact lv_tableIn (off := 93) (tgt := 132) hx hb dL_law_39 (by decide) (by decide) (by decide) (by decide) (law_c0 hC hi (ih hi) hR hP hD hS hl)
    · exact lv_tableIn (off := 130) (tgt := 169) hx hb dL_law_39 (by decide) (by decide) (by decide) (by decide) (law_c1 hC hi (ih hi) hR hP hD hS hl)
    · exact lv_tableIn (off := 155) (tgt := 194) hx hb dL_law_39 (by decide) (by decide) (by decide) (by decide) (law_c2 hC hi (ih hi) hR hP hD hS hl)
    · exact lv_tableIn (off := 168) (tgt := 207) hx hb dL_law_39 (by decide) (by decide) (by decide) (by decide) (law_c3 hC hi (ih hi) hR hP hD hS hl)
    · exact lv_tableIn (off := 181) (tgt := 220) hx hb dL_law_39 (by decide) (by decide) (by decide) (by decide) (law_c4 hC hi (ih hi) hR hP hD hS hl)
    · exact lv_tableIn (off := 194) (tgt := 233) hx hb dL_law_39 (by decide) (by decide) (by decide) (by decide) (law_c5 hC hi (ih hi) hR hP hD hS hl)
    · exact lv_tableIn (off := 219) (tgt := 258) hx hb dL_law_39 (by decide) (by decide) (by decide) (by decide) (law_c6 hC hi (ih hi) hR hP hD hS hl)
    · exact lv_tableIn (off := 232) (tgt := 271) hx hb dL_law_39 (by decide) (by decide) (by decide) (by decide) (law_c7 hC hi (ih hi) hR hP hD hS hl)
    · exact lv_tableIn (off := 288) (tgt := 327) hx hb dL_law_39 (by decide) (by decide) (by decide) (by decide) (law_c8 hC hi (ih hi) hR hP hD hS hl)
    · exact lv_tableIn (off := 344) (tgt := 383) hx hb dL_law_39 (by decide) (by decide) (by decide) (by decide) (law_c9 hC hi (ih hi) hR hP hD hS hl)
    · exact lv_tableIn (off := 369) (tgt := 408) hx hb dL_law_39 (by decide) (by decide) (by decide) (by decide) (law_c10 hC hi (ih hi) hR hP hD hS hl)
    · exact lv_tableIn (off := 394) (tgt := 433) hx hb dL_law_39 (by decide) (by decide) (by decide) (by decide) (law_c11 hC hi (ih hi) hR hP hD hS hl)
    · exact lv_tableIn (off := 431) (tgt := 470) hx hb dL_law_39 (by decide) (by decide) (by decide) (by decide) (law_c12 hC hi (ih hi) hR hP hD hS hl)
    · exact lv_tableIn (off := 456) (tgt := 495) hx hb dL_law_39 (by decide) (by decide) (by decide) (by decide) (law_c13 hC hi (ih hi) hR hP hD hS hl)
    · exact lv_tableIn (off := 481) (tgt := 520) hx hb dL_law_39 (by decide) (by decide) (by decide) (by decide) (law_c14 hC hi (ih hi) hR hP hD hS hl)
    · exact lv_tableIn (off := 506) (tgt := 545) hx hb dL_law_39 (by decide) (by decide) (by decide) (by decide) (law_c15 hC hi (ih hi) hR hP hD hS hl)
    · exact lv_tableIn (off := 519) (tgt := 558) hx hb dL_law_39 (by decide) (by decide) (by decide) (by decide) (law_c16 hC hi (ih hi) hR hP hD hS hl)
    · exact lv_tableIn (off := 544) (tgt := 583) hx hb dL_law_39 (by decide) (by decide) (by decide) (by decide) (law_c17 hC hi (ih hi) hR hP hD hS hl)
    · exact lv_tableIn (off := 557) (tgt := 596) hx hb dL_law_39 (by decide) (by decide) (by decide) (by decide) (law_c18 hC hi (ih hi) hR hP hD hS hl)
    · exact lv_tableIn (off := 570) (tgt := 609) hx hb dL_law_39 (by decide) (by decide) (by decide) (by decide) (law_c19 hC hi (ih hi) hR hP hD hS hl)
    · refine lv_tableOut (tgt := 622) hx hb dL_law_39 (Or.inr (by rw [nI_toInt (by omega)]; omega)) (by decide) ?_
      refine W.widen (k := 20 + (i + 1)) (n := 30400 + 6 * (i + 1)) (by omega) (by omega) ?_
      exact ih hi _ _ _ _ _ ls (rel_up hR) hP hD hS hl
theorem law_loop (hC : lwC p l s m c dC dI cI cZ cJ b L xs sa sb) (hr : meth.sig.returnType = ret) (hlocks : meth.locks = false) : ∀ (z i : Nat), L ≤ 3 * i + 3 * z → 3 * i ≤ L → lwG p l e s m below meth c dC dI cI cZ cJ ad bd qo b 23 i i := by
  intro z
  induction z with
  | zero => intro i h1 h2; exact law_step hC hr hlocks h2 (fun h => by omega)
  | succ z ih => intro i h1 h2; exact law_step hC hr hlocks h2 (fun h => law_622 hC (ih (i + 1) (by omega) (by omega)))
end LAW
/-- a new object of each: they agree -/
theorem rel_0 : Rel 0 (0, 1, 0, 0, 0, z0, z0, z0, z0, z0, z0, z0, z0) (1, 0, 0, 0, 0, z0, z0, z0, z0, z0, z0, z0, z0) := by
  refine ⟨rfl, rfl, rfl, rfl, ⟨by omega, by omega, by omega, by omega, by omega, by omega⟩, ⟨fun q _ => rfl, fun q _ => rfl, (cn_0 z0 (Nat.le_refl 0)).symm⟩, ⟨fun _ => 0, rfl, fun k _ => ⟨rfl, rfl, Nat.le_refl 0⟩, fun k _ => Nat.le_refl 0⟩, ⟨fun _ => 0, fun g _ => ⟨rfl, rfl, Nat.le_refl 0⟩⟩, fun _ => 0, fun _ => 0, fun q hq => absurd hq (Nat.not_lt_zero q)⟩
/-- what the throws rest on, at the law's start -/
theorem tp_start {s : State} {b : Nat} (hts : ∀ w ∈ lw_tbl, w.before #[Value.ref b] s = true) (hgv : (Jvm.Cond.and given_1 narrow_1).before #[Value.ref b] s = true) : ∃ sa sb, tp (fun q : Nat => s.heap.size ≤ q) sa sb s s.heap := by
  have hs := flat_of_before _ hgv
  have e1 : (Cond.exactly (.string RX0 104) "java/lang/String").before #[Value.ref b] s = true := hs _ (by decide +kernel)
  have e2 : (Cond.exactly (.string RX0 111) "java/lang/String").before #[Value.ref b] s = true := hs _ (by decide +kernel)
  obtain ⟨sa, -, -, -, q1, -⟩ := Cond.exactly_spec (args := #[Value.ref b]) (first := s) (o := none) (s := s) (idx := []) (t := .string RX0 104) (cls := "java/lang/String") e1
  obtain ⟨sb, -, -, -, q2, -⟩ := Cond.exactly_spec (args := #[Value.ref b]) (first := s) (o := none) (s := s) (idx := []) (t := .string RX0 111) (cls := "java/lang/String") e2
  have hA : ∀ a : Nat, a < s.heap.size → ¬ (fun q : Nat => s.heap.size ≤ q) a := fun a h => Nat.not_le.mpr h
  refine ⟨sa, sb, vk_R.of (hts (.stringRef RX0 104 "the offset is not START .. END - 1") (by decide +kernel)) q1, vk_R.of (hts (.stringRef RX0 111 "there is no record at the offset") (by decide +kernel)) q2, va_Nw.of rfl (hts (.declares (Bundle.initS nRT)) (by decide +kernel)), va_Nw.of rfl (hts (.declares (Bundle.initS nEX)) (by decide +kernel)), va_Nw.of rfl (hts (.declares (Bundle.initS Bundle.tN)) (by decide +kernel)), ?_, ?_, va_Nw.of rfl (hts (.castable nIO nIO) (by decide +kernel)), va_Nw.of rfl (hts (.castable nNS nNS) (by decide +kernel)), va_Nc.of (hs (.not (.castable nNS nIO)) (by decide +kernel))⟩
  · exact vx_Zqof (hts (.laysStatic Bundle.tN "UNASSIGNED_STACK" Bundle.steD) (by decide +kernel)) (hts (.initialized Bundle.tN) (by decide +kernel)) (hs (.isRef (.static Bundle.tN "UNASSIGNED_STACK" Bundle.steD)) (by decide +kernel)) hA
  · exact vx_Zqof (hts (.laysStatic Bundle.tN "SUPPRESSED_SENTINEL" Bundle.listD) (by decide +kernel)) (hts (.initialized Bundle.tN) (by decide +kernel)) (hs (.isRef (.static Bundle.tN "SUPPRESSED_SENTINEL" Bundle.listD)) (by decide +kernel)) hA
