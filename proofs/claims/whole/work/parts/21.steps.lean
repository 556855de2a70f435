-- ===== the calls that change something: the answers agree, and so do the states behind them =====
def Rel (i : Nat) (u0 : C0) (u1 : C1) : Prop := match u0, u1 with
  | (n, sc, st, en, du, fo, fk, fv, fr, fc, fb, fp, _), (sg, st1, en1, du1, _, yk, yv, yr, yt, yl, yb, yp, _) =>
    sg = sc ∧ st1 = st ∧ en1 = en ∧ du1 = du ∧ Rn i n sc st en du ∧ Ry n st en yt ∧ (∃ Bs, Rb sc st en fb yb Bs) ∧ (∃ Ps, Rp en fp yp Ps) ∧ ∃ O K, Rr n en fo fk fv fr fc yk yv yr yt yl O K
section PS
variable {i n sc st en du th : Nat} {fo fk fv fr fc fb fp ft yk yv yr yt yl yb yp yg : Nat → Int32} {O K Bs Ps : Nat → Nat}
theorem rn_up (h : Rn i n sc st en du) : Rn (i + 1) n sc st en du := by
  obtain ⟨h1, h2, h3, h4, h5, h6⟩ := h
  exact ⟨by omega, h2, by omega, h4, h5, h6⟩
theorem ry_st (hy : Ry n st en yt) (h : st ≤ en) : cn yt st en = n := by
  have h1 := cn_add yt (Nat.zero_le st) h
  rw [cn_z yt (a := 0) (b := st) (fun q _ h2 => hy.2.1 q h2)] at h1
  have := hy.2.2
  omega
theorem rp_mono {en2 : Nat} (h : Rp en fp yp Ps) (h2 : en ≤ en2) : Rp en2 fp yp Ps := fun g hg => ⟨(h g hg).1, (h g hg).2.1, by have := (h g hg).2.2; omega⟩
theorem rb_mono {en2 : Nat} (h : Rb sc st en fb yb Bs) (h2 : en ≤ en2) : Rb sc st en2 fb yb Bs := ⟨h.1, fun k hk => ⟨(h.2.1 k hk).1, (h.2.1 k hk).2.1, by have := (h.2.1 k hk).2.2; omega⟩, h.2.2⟩
/-- a new base e behind the first k ones -/
theorem rb_push {k e en2 : Nat} (h : Rb sc st en fb yb Bs) (hk : k ≤ sc) (h0 : k = 0 → e = st) (h1 : ∀ q, q < k → Bs q ≤ e) (h2 : e ≤ en2) : Rb (k + 1) st en2 (upd fb k (nI e)) (upd yb k (nI e)) (fun q => if q = k then e else Bs q) := by
  refine ⟨?_, fun q hq => ?_, fun q hq => ?_⟩
  · by_cases e0 : (0 : Nat) = k
    · show (if (0 : Nat) = k then e else Bs 0) = st
      rw [if_pos e0]; exact h0 e0.symm
    · show (if (0 : Nat) = k then e else Bs 0) = st
      rw [if_neg e0]; exact h.1
  · show upd fb k (nI e) q = nI (if q = k then e else Bs q) ∧ upd yb k (nI e) q = nI (if q = k then e else Bs q) ∧ (if q = k then e else Bs q) ≤ en2
    by_cases e0 : q = k
    · subst e0
      rw [pk_us, pk_us, if_pos rfl]; exact ⟨rfl, rfl, h2⟩
    · rw [pk_un e0, pk_un e0, if_neg e0]
      have hq2 : q < k := by omega
      have h3 := h.2.1 q (by omega)
      exact ⟨h3.1, h3.2.1, by have := h1 q hq2; omega⟩
  · have e0 : ¬ q = k := by omega
    show (if q = k then e else Bs q) ≤ (if q + 1 = k then e else Bs (q + 1))
    rw [if_neg e0]
    by_cases e1 : q + 1 = k
    · rw [if_pos e1]; exact h1 q (by omega)
    · rw [if_neg e1]; exact h.2.2 q (by omega)
theorem rb_le (h : Rb sc st en fb yb Bs) : ∀ d q, q + d < sc → Bs q ≤ Bs (q + d)
  | 0, q, _ => Nat.le_refl _
  | d + 1, q, hq => Nat.le_trans (rb_le h d q (by omega)) (h.2.2 (q + d) (by omega))
theorem rb_le2 (h : Rb sc st en fb yb Bs) {a b : Nat} (hab : a ≤ b) (hb : b < sc) : Bs a ≤ Bs b := by
  have := rb_le h (b - a) a (by omega)
  rw [show a + (b - a) = b by omega] at this
  exact this
theorem rr_app (h : Rr n en fo fk fv fr fc yk yv yr yt yl O K) (hy : Ry n st en yt) {κ : Nat} {v ρ : Int32} (hκ : κ < 16) (hρ : ρ = nI 0 ∨ (ρ = nI 1 ∧ v = nI 0)) :
    Rr (n + 1) (en + 1) (upd fo n (nI en)) (upd fk n (nI κ)) (upd fv n v) (upd fr n ρ) (upd fc n (nI 0)) (upd yk en (nI κ)) (upd yv en v) (upd yr en ρ) (upd yt en (nI 1)) (upd yl en (nI 0)) (fun q => if q = n then en else O q) (fun q => if q = n then κ else K q) := by
  intro q hq
  have hcn : ∀ x, x ≤ en → cn (upd yt en (nI 1)) 0 x = cn yt 0 x := fun x hx => cn_congr (fun k _ h2 => by rw [pk_un (by omega)])
  by_cases e : q = n
  · subst e
    refine ⟨?_, ?_⟩
    · show (if q = q then en else O q) < en + 1 ∧ ¬ upd yt en (nI 1) (if q = q then en else O q) = 0 ∧ cn (upd yt en (nI 1)) 0 (if q = q then en else O q) = q
      rw [if_pos rfl, pk_us, hcn en (Nat.le_refl en)]
      exact ⟨by omega, by decide, hy.2.2.symm⟩
    · unfold Rq
      simp only [if_true, pk_us]
      exact ⟨trivial, trivial, hκ, trivial, trivial, trivial, trivial, hρ, Or.inl trivial⟩
  · have hq2 : q < n := by omega
    obtain ⟨⟨h1, h2, h3⟩, h4⟩ := h q hq2
    refine ⟨?_, ?_⟩
    · show (if q = n then en else O q) < en + 1 ∧ ¬ upd yt en (nI 1) (if q = n then en else O q) = 0 ∧ cn (upd yt en (nI 1)) 0 (if q = n then en else O q) = q
      rw [if_neg e, pk_un (by omega), hcn _ (by omega)]
      exact ⟨by omega, h2, h3⟩
    · unfold Rq at h4 ⊢
      simp only [if_neg e, pk_un e, pk_un (show ¬ O q = en by omega)]
      exact h4
theorem ry_app (hy : Ry n st en yt) (h : st ≤ en) : Ry (n + 1) st (en + 1) (upd yt en (nI 1)) := by
  refine ⟨fun q hq => by rw [pk_un (by omega)]; exact hy.1 q (by omega), fun q hq => by rw [pk_un (by omega)]; exact hy.2.1 q hq, ?_⟩
  rw [cn_t (Nat.zero_le en) (by rw [pk_us]; decide), cn_congr (g := yt) (fun k _ h2 => by rw [pk_un (by omega)])]
  have := hy.2.2
  omega
theorem app_eq {x v ρ r0 r1 : Int32} {u0 : C0} {u1 : C1} (hR : Rel i (n, sc, st, en, du, fo, fk, fv, fr, fc, fb, fp, ft) (sc, st, en, du, th, yk, yv, yr, yt, yl, yb, yp, yg)) (hb : Rb sc st en fb yb Bs) (hρ : ρ = nI 0 ∨ (ρ = nI 1 ∧ v = nI 0))
    (h0 : adp x v ρ (Bs (sc - 1)) r0 (n, sc, st, en, du, fo, fk, fv, fr, fc, fb, fp, ft) u0) (h1 : pdp x v ρ (Bs (sc - 1)) r1 (sc, st, en, du, th, yk, yv, yr, yt, yl, yb, yp, yg) u1) : r0 = r1 ∧ Rel (i + 1) u0 u1 := by
  obtain ⟨-, -, -, -, hn, hy, -, hp, hr⟩ := id hR
  obtain ⟨n1, n2, n3, n4, n5, n6⟩ := id hn
  have hcn := ry_st hy (by omega)
  have hup : Rel (i + 1) (n, sc, st, en, du, fo, fk, fv, fr, fc, fb, fp, ft) (sc, st, en, du, th, yk, yv, yr, yt, yl, yb, yp, yg) := ⟨rfl, rfl, rfl, rfl, rn_up hn, hy, ⟨Bs, hb⟩, hp, hr⟩
  rcases h0 with ⟨κ, a1, rfl, a3, rfl, a5⟩ | ⟨κ, a1, rfl, a3, rfl, rfl⟩ | ⟨a1, rfl, rfl⟩
  · rcases h1 with ⟨κ2, b1, b2, b3, rfl, b5⟩ | ⟨κ2, b1, b2, b3, rfl, rfl⟩ | ⟨b1, rfl, rfl⟩
    · have hκ := nI_inj (by omega) (by omega) b2
      subst hκ
      refine ⟨rfl, ?_⟩
      obtain ⟨O, K, hr⟩ := hr
      obtain ⟨Ps, hp⟩ := hp
      have hbl := (hb.2.1 (sc - 1) (by omega)).2.2
      rcases a5 with ⟨a6, rfl⟩ | ⟨a6, rfl⟩
      · rcases b5 with ⟨b6, rfl⟩ | ⟨b6, rfl⟩
        · exact ⟨rfl, rfl, rfl, rfl, ⟨by omega, by omega, by omega, n4, by omega, by omega⟩, ry_app hy (by omega), ⟨_, rb_push hb (Nat.le_refl sc) (fun h => by omega) (fun q hq => by have := (hb.2.1 q hq).2.2; omega) (Nat.le_refl _)⟩, ⟨Ps, rp_mono hp (by omega)⟩, _, _, rr_app hr hy a1 hρ⟩
        · exact absurd a6 b6
      · rcases b5 with ⟨b6, rfl⟩ | ⟨b6, rfl⟩
        · exact absurd b6 a6
        · exact ⟨rfl, rfl, rfl, rfl, ⟨by omega, by omega, by omega, n4, by omega, by omega⟩, ry_app hy (by omega), ⟨Bs, rb_mono hb (by omega)⟩, ⟨Ps, rp_mono hp (by omega)⟩, _, _, rr_app hr hy a1 hρ⟩
    · omega
    · exact absurd rfl (b1 κ a1)
  · rcases h1 with ⟨κ2, b1, b2, b3, rfl, b5⟩ | ⟨κ2, b1, b2, b3, rfl, rfl⟩ | ⟨b1, rfl, rfl⟩
    · omega
    · exact ⟨rfl, hup⟩
    · exact absurd rfl (b1 κ a1)
  · rcases h1 with ⟨κ2, b1, b2, b3, rfl, b5⟩ | ⟨κ2, b1, b2, b3, rfl, rfl⟩ | ⟨b1, rfl, rfl⟩
    · exact absurd b2 (a1 κ2 b1)
    · exact absurd b2 (a1 κ2 b1)
    · exact ⟨rfl, hup⟩
/-- the records by new places -/
theorem rr_re {n2 en2 : Nat} {go gk gv gr gc zt zl : Nat → Int32} (h : Rr n en fo fk fv fr fc yk yv yr yt yl O K) (σ : Nat → Nat) (hσ : ∀ q, q < n2 → σ q < n) (ho : ∀ q, q < n2 → O (σ q) < en2 ∧ ¬ zt (O (σ q)) = 0 ∧ cn zt 0 (O (σ q)) = q)
    (h1 : ∀ q, q < n2 → go q = fo (σ q)) (h2 : ∀ q, q < n2 → gk q = fk (σ q)) (h3 : ∀ q, q < n2 → gv q = fv (σ q)) (h4 : ∀ q, q < n2 → gr q = fr (σ q)) (h5 : ∀ q, q < n2 → gc q = zl (O (σ q)) ∧ (gc q = nI 0 ∨ gc q = nI 1)) :
    Rr n2 en2 go gk gv gr gc yk yv yr zt zl (fun q => O (σ q)) (fun q => K (σ q)) := fun q hq => by
  obtain ⟨-, a1, a2, a3, a4, a5, a6, a7, a8, a9⟩ := h (σ q) (hσ q hq)
  exact ⟨ho q hq, (h1 q hq).trans a1, (h2 q hq).trans a2, a3, a4, (h3 q hq).trans a5, (h4 q hq).trans a6, (h5 q hq).1, by rw [h4 q hq, h3 q hq]; exact a8, (h5 q hq).2⟩
theorem mnp_eq (hp : Rp en fp yp Ps) {gq zq : Nat → Int32} (hd : du ≤ en) (hen : en < 2 ^ 31) (h0 : mnp (nI du) fp gq 4) (h1 : mnp (nI du) yp zq 4) : Rp du gq zq (fun g => min (Ps g) du) := fun g hg => by
  obtain ⟨a1, a2, a3⟩ := hp g hg
  have key : (if nI du < nI (Ps g) then nI du else nI (Ps g)) = nI (min (Ps g) du) := by
    by_cases h : nI du < nI (Ps g)
    · rw [if_pos h, Nat.min_eq_right (Nat.le_of_lt (q_lt (by omega) (by omega) h))]
    · rw [if_neg h, Nat.min_eq_left (q_nlt (by omega) (by omega) h)]
  refine ⟨?_, ?_, Nat.min_le_right _ _⟩
  · rw [(h0 g).1 hg, a1]; exact key
  · rw [(h1 g).1 hg, a2]; exact key
/-- how many segments a crash leaves -/
theorem seg_eq (hb : Rb sc st en fb yb Bs) {k k2 : Nat} {x : Int32} (a1 : k ≤ sc) (a2 : ∀ q, k ≤ q → q < sc → ¬ fb q < x) (a3 : 0 < k → fb (k - 1) < x) (b1 : k2 ≤ sc) (b2 : ∀ q, k2 ≤ q → q < sc → ¬ yb q < x) (b3 : 0 < k2 → yb (k2 - 1) < x) : k = k2 := by
  rcases Nat.lt_trichotomy k k2 with h | h | h
  · have h1 := b3 (by omega)
    rw [(hb.2.1 (k2 - 1) (by omega)).2.1, ← (hb.2.1 (k2 - 1) (by omega)).1] at h1
    exact absurd h1 (a2 (k2 - 1) (by omega) (by omega))
  · exact h
  · have h1 := a3 (by omega)
    rw [(hb.2.1 (k - 1) (by omega)).1, ← (hb.2.1 (k - 1) (by omega)).2.1] at h1
    exact absurd h1 (b2 (k - 1) (by omega) (by omega))
theorem dr_at {f g : Nat → Int32} {a d n : Nat} (h : dr f g a d n) {q : Nat} (hq : q < n - d) : g q = f (if q < a then q else q + d) := (h q).1 hq
theorem crash_eq {r0 r1 : Int32} {u0 : C0} {u1 : C1} (hR : Rel i (n, sc, st, en, du, fo, fk, fv, fr, fc, fb, fp, ft) (sc, st, en, du, th, yk, yv, yr, yt, yl, yb, yp, yg)) (hi : i ≤ 4000)
    (h0 : ∃ (j k : Nat) (go gk gv gr gc gq : Nat → Int32), ix fo n (nI du) j ∧ r0 = nI (n - j) ∧ dr fo go j (n - j) n ∧ dr fk gk j (n - j) n ∧ dr fv gv j (n - j) n ∧ dr fr gr j (n - j) n ∧ dr fc gc j (n - j) n ∧ k ≤ sc ∧ (∀ q, k ≤ q → q < sc → ¬ fb q < nI du) ∧ (0 < k → fb (k - 1) < nI du) ∧ mnp (nI du) fp gq 4 ∧ u0 = (j, k + 1, st, du, du, go, gk, gv, gr, gc, upd fb k (nI du), gq, ft))
    (h1 : ∃ (k : Nat) (zt zq : Nat → Int32), r1 = nI (cn yt du en) ∧ zr yt zt du en ∧ k ≤ sc ∧ (∀ q, k ≤ q → q < sc → ¬ yb q < nI du) ∧ (0 < k → yb (k - 1) < nI du) ∧ mnp (nI du) yp zq 4 ∧ u1 = (k + 1, st, du, du, th, yk, yv, yr, zt, yl, upd yb k (nI du), zq, yg)) : r0 = r1 ∧ Rel (i + 1) u0 u1 := by
  obtain ⟨-, -, -, -, hn, hy, ⟨Bs, hb⟩, ⟨Ps, hp⟩, O, K, hr⟩ := id hR
  obtain ⟨n1, n2, n3, n4, n5, n6⟩ := id hn
  obtain ⟨j, k, go, gk, gv, gr, gc, gq, a1, rfl, d1, d2, d3, d4, d5, a2, a3, a4, a5, rfl⟩ := h0
  obtain ⟨k2, zt, zq, rfl, b1, b2, b3, b4, b5, rfl⟩ := h1
  have hk := seg_eq hb a2 a3 a4 b2 b3 b4
  subst hk
  have hj := ix_rankN hr.ro hy (by omega) (rr_fo hr) (by omega) a1
  have hjn := a1.1
  refine ⟨by rw [lag_eq hr hy (by omega) n5 a1], ?_⟩
  have hz : ∀ q, q < du → zt q = yt q := fun q hq => by rw [b1 q, if_neg (by omega)]
  have hcz : ∀ x, x ≤ du → cn zt 0 x = cn yt 0 x := fun x hx => cn_congr (fun q _ h2 => by rw [hz q (by omega)])
  have hOd : ∀ q, q < j → O q < du := fun q hq => (ro_lt hr.ro (by omega)).mpr (by omega)
  have hkb : ∀ q, q < k → Bs q ≤ du := fun q hq => by
    have h3 := a4 (by omega)
    rw [(hb.2.1 (k - 1) (by omega)).1] at h3
    have h4 := (hb.2.1 (k - 1) (by omega)).2.2
    have h5 := q_lt (by omega) (by omega) h3
    have h6 := rb_le2 hb (show q ≤ k - 1 by omega) (by omega)
    omega
  have hk0 : k = 0 → du = st := fun h => by
    subst h
    have h3 := a3 0 (Nat.le_refl 0) n2
    rw [(hb.2.1 0 n2).1, hb.1] at h3
    have h4 := q_nlt (by omega) (by omega) h3
    omega
  refine ⟨rfl, rfl, rfl, rfl, ⟨by omega, by omega, by omega, n4, Nat.le_refl du, by omega⟩, ⟨fun q hq => ?_, fun q hq => ?_, ?_⟩, ⟨_, rb_push hb a2 hk0 hkb (Nat.le_refl du)⟩, ⟨_, mnp_eq hp n5 (by omega) a5 b5⟩, _, _, rr_re hr (fun q => q) (fun q hq => by omega) (fun q hq => ?_) (fun q hq => ?_) (fun q hq => ?_) (fun q hq => ?_) (fun q hq => ?_) (fun q hq => ?_)⟩
  · rw [b1 q]
    by_cases h3 : du ≤ q ∧ q < en
    · rw [if_pos h3]; rfl
    · rw [if_neg h3]; exact hy.1 q (by omega)
  · rw [hz q (by omega)]; exact hy.2.1 q hq
  · rw [hcz du (Nat.le_refl du)]; exact hj
  · obtain ⟨c1, c2, c3⟩ := hr.ro q (by omega)
    have := hOd q hq
    exact ⟨this, by rw [hz _ this]; exact c2, by rw [hcz _ (by omega)]; exact c3⟩
  · rw [dr_at d1 (by omega), if_pos hq]
  · rw [dr_at d2 (by omega), if_pos hq]
  · rw [dr_at d3 (by omega), if_pos hq]
  · rw [dr_at d4 (by omega), if_pos hq]
  · rw [dr_at d5 (by omega), if_pos hq]
    have := (hr q (by omega)).2
    exact ⟨this.2.2.2.2.2.2.1, this.2.2.2.2.2.2.2.2⟩
theorem retain_eq {x r0 r1 : Int32} {u0 : C0} {u1 : C1} (hR : Rel i (n, sc, st, en, du, fo, fk, fv, fr, fc, fb, fp, ft) (sc, st, en, du, th, yk, yv, yr, yt, yl, yb, yp, yg)) (hb : Rb sc st en fb yb Bs) (hi : i ≤ 4000)
    (h0 : (x < 0 ∧ r0 = -1 ∧ u0 = (n, sc, st, en, du, fo, fk, fv, fr, fc, fb, fp, ft)) ∨ (∃ (M d j : Nat) (go gk gv gr gc gb : Nat → Int32), x = nI M ∧ M < 2 ^ 31 ∧ d < sc ∧ (∀ q, q < d → ∃ z, ix fo n (fb (q + 1)) z ∧ M ≤ n - z) ∧ (d + 1 < sc → ∃ z, ix fo n (fb (d + 1)) z ∧ n - z < M) ∧ dr fb gb 0 d sc ∧ ix fo n (nI (Bs d)) j ∧ r0 = nI j ∧ dr fo go 0 j n ∧ dr fk gk 0 j n ∧ dr fv gv 0 j n ∧ dr fr gr 0 j n ∧ dr fc gc 0 j n ∧ u0 = (n - j, sc - d, Bs d, en, max du (Bs d), go, gk, gv, gr, gc, gb, fp, ft)))
    (h1 : (x < 0 ∧ r1 = -1 ∧ u1 = (sc, st, en, du, th, yk, yv, yr, yt, yl, yb, yp, yg)) ∨ (∃ (M d : Nat) (zt zb : Nat → Int32), x = nI M ∧ M < 2 ^ 31 ∧ d < sc ∧ (∀ q, q < d → M ≤ cn yt (Bs (q + 1)) en) ∧ (d + 1 < sc → cn yt (Bs (d + 1)) en < M) ∧ zr yt zt (Bs 0) (Bs d) ∧ (∀ q, q < sc - d → zb q = nI (Bs (q + d))) ∧ r1 = nI (cn yt (Bs 0) (Bs d)) ∧ u1 = (sc - d, Bs d, en, max du (Bs d), th, yk, yv, yr, zt, yl, zb, yp, yg))) : r0 = r1 ∧ Rel (i + 1) u0 u1 := by
  obtain ⟨-, -, -, -, hn, hy, -, ⟨Ps, hp⟩, O, K, hr⟩ := id hR
  obtain ⟨n1, n2, n3, n4, n5, n6⟩ := id hn
  rcases h0 with ⟨a1, rfl, rfl⟩ | ⟨M, d, j, go, gk, gv, gr, gc, gb, rfl, a1, a2, a3, a4, a5, a6, rfl, d1, d2, d3, d4, d5, rfl⟩
  · rcases h1 with ⟨b1, rfl, rfl⟩ | ⟨M, d, zt, zb, rfl, b1, b2, b3, b4, b5, b6, rfl, rfl⟩
    · exact ⟨rfl, rfl, rfl, rfl, rfl, rn_up hn, hy, ⟨Bs, hb⟩, ⟨Ps, hp⟩, O, K, hr⟩
    · exact absurd a1 (nI_pos b1)
  · rcases h1 with ⟨b1, rfl, rfl⟩ | ⟨M2, d9, zt, zb, b0, b1, b2, b3, b4, b5, b6, rfl, rfl⟩
    · exact absurd b1 (nI_pos a1)
    · have hM := nI_inj a1 b1 b0
      subst hM
      have hcz : ∀ q, q + 1 < sc → ∀ z, ix fo n (fb (q + 1)) z → n - z = cn yt (Bs (q + 1)) en := fun q hq z hz => by
        have h3 := hb.2.1 (q + 1) hq
        rw [h3.1] at hz
        exact lag_eq hr hy (by omega) h3.2.2 hz
      have hd : d = d9 := by
        rcases Nat.lt_trichotomy d d9 with h | h | h
        · obtain ⟨z, z1, z2⟩ := a4 (by omega)
          rw [hcz d (by omega) z z1] at z2
          have := b3 d h
          omega
        · exact h
        · obtain ⟨z, z1, z2⟩ := a3 d9 h
          rw [hcz d9 (by omega) z z1] at z2
          have := b4 (by omega)
          omega
      subst hd
      have hbd := (hb.2.1 d a2).2.2
      have h0d := rb_le2 hb (Nat.zero_le d) a2
      rw [hb.1] at h0d b5
      have hj := ix_rankN hr.ro hy (by omega) (rr_fo hr) (by omega) a6
      have hjn := a6.1
      have hst0 : cn yt 0 st = 0 := cn_z yt (fun q _ h2 => hy.2.1 q h2)
      refine ⟨by rw [hj, hb.1, cn_sub yt h0d, hst0]; rfl, ?_⟩
      have hz0 : ∀ q, q < Bs d → zt q = 0 := fun q hq => by
        rw [b5 q]
        by_cases h3 : st ≤ q ∧ q < Bs d
        · rw [if_pos h3]; rfl
        · rw [if_neg h3]; exact hy.2.1 q (by omega)
      have hz1 : ∀ q, Bs d ≤ q → zt q = yt q := fun q hq => by rw [b5 q, if_neg (by omega)]
      have hcn : ∀ y, Bs d ≤ y → cn zt 0 y = cn yt 0 y - j := fun y hyy => by
        rw [← cn_add zt (Nat.zero_le (Bs d)) hyy, cn_z zt (a := 0) (b := Bs d) (fun q _ h2 => hz0 q h2), cn_congr (g := yt) (fun q h3 _ => by rw [hz1 q h3]), cn_sub yt hyy, hj]
        omega
      have hOd : ∀ q, q < n - j → Bs d ≤ O (q + j) := fun q hq => by
        rcases Nat.lt_or_ge (O (q + j)) (Bs d) with h3 | h3
        · rw [ro_lt hr.ro (by omega)] at h3
          omega
        · exact h3
      refine ⟨rfl, rfl, rfl, rfl, ⟨by omega, by omega, by omega, Nat.le_max_right _ _, by omega, by omega⟩, ⟨fun q hq => ?_, fun q hq => hz0 q hq, ?_⟩, ⟨fun q => Bs (q + d), ?_, fun q hq => ⟨?_, b6 q hq, (hb.2.1 (q + d) (by omega)).2.2⟩, fun q hq => ?_⟩, ⟨Ps, hp⟩, _, _, rr_re hr (fun q => q + j) (fun q hq => by omega) (fun q hq => ?_) (fun q hq => ?_) (fun q hq => ?_) (fun q hq => ?_) (fun q hq => ?_) (fun q hq => ?_)⟩
      · rw [hz1 q (by omega)]; exact hy.1 q hq
      · rw [hcn en hbd, ← hy.2.2]
      · show Bs (0 + d) = Bs d
        rw [Nat.zero_add]
      · rw [dr_at a5 hq, if_neg (Nat.not_lt_zero q)]; exact (hb.2.1 (q + d) (by omega)).1
      · show Bs (q + d) ≤ Bs (q + 1 + d)
        have := hb.2.2 (q + d) (by omega)
        rw [show q + 1 + d = q + d + 1 by omega]; exact this
      · obtain ⟨c1, c2, c3⟩ := hr.ro (q + j) (by omega)
        have := hOd q hq
        exact ⟨c1, by rw [hz1 _ this]; exact c2, by rw [hcn _ this, c3]; omega⟩
      · rw [dr_at d1 hq, if_neg (Nat.not_lt_zero q)]
      · rw [dr_at d2 hq, if_neg (Nat.not_lt_zero q)]
      · rw [dr_at d3 hq, if_neg (Nat.not_lt_zero q)]
      · rw [dr_at d4 hq, if_neg (Nat.not_lt_zero q)]
      · rw [dr_at d5 hq, if_neg (Nat.not_lt_zero q)]
        have := (hr (q + j) (by omega)).2
        exact ⟨this.2.2.2.2.2.2.1, this.2.2.2.2.2.2.2.2⟩
end PS
