-- ===== the cleaner =====
theorem kp_idx {b : Nat → Bool} {i z q : Nat} (h : (kp b i)[z]? = some q) : q < i ∧ b q = true ∧ (kp b q).length = z := by
  induction i with
  | zero => simp [kp] at h
  | succ i ih =>
    by_cases hb : b i = true
    · rw [kp_t hb] at h
      rcases Nat.lt_or_ge z (kp b i).length with h1 | h1
      · rw [List.getElem?_append_left h1] at h
        obtain ⟨a1, a2, a3⟩ := ih h
        exact ⟨by omega, a2, a3⟩
      · rw [List.getElem?_append_right h1] at h
        have h2 : z - (kp b i).length = 0 := by
          have := (List.getElem?_eq_some_iff.mp h).1
          simp at this; omega
        rw [h2] at h
        have h3 : i = q := by simpa using h
        subst h3
        exact ⟨by omega, hb, by omega⟩
    · rw [kp_f (Bool.eq_false_iff.mpr hb)] at h
      obtain ⟨a1, a2, a3⟩ := ih h
      exact ⟨by omega, a2, a3⟩
theorem gi_ff {yk yt yr yl : Nat → Int32} {k j : Nat} : gi yk yt yr yl k j = false ↔ (yr k = 0 ∨ yl k = 0) ∧ ∀ q, q < j → k < q → ¬ yt q = 0 → ¬ yk q = yk k := by
  unfold gi
  rw [Bool.or_eq_false_iff, List.any_eq_false]
  constructor
  · intro ⟨h1, h2⟩
    refine ⟨?_, fun q q1 q2 q3 q4 => ?_⟩
    · by_cases e1 : yr k = 0
      · exact Or.inl e1
      · by_cases e2 : yl k = 0
        · exact Or.inr e2
        · simp [e1, e2] at h1
    · exact h2 q (List.mem_range.mpr q1) (by simp [q2, q3, q4])
  · intro ⟨h1, h2⟩
    refine ⟨?_, fun q hq h3 => ?_⟩
    · rcases h1 with e | e <;> simp [e]
    · simp only [Bool.and_eq_true, decide_eq_true_eq, Bool.not_eq_true', decide_eq_false_iff_not] at h3
      exact h2 q (List.mem_range.mp hq) h3.1 h3.2.1 h3.2.2
section PC
variable {i n sc st en du th : Nat} {fo fk fv fr fc fb fp ft yk yv yr yt yl yb yp yg : Nat → Int32} {O K Bs Ps : Nat → Nat}
theorem sv_gi (h : Rr n en fo fk fv fr fc yk yv yr yt yl O K) (hy : Ry n st en yt) {gt : Nat → Int32} {pt j q : Nat} (hn : n ≤ 60) (hj : j = cn yt 0 pt) (hl : lat K gt j) (hq : q < j) : sv K gt fr fc q = true ↔ gi yk yt yr yl (O q) pt = false := by
  have hjn : j ≤ n := by rw [hj]; exact cn_cap hy pt
  obtain ⟨⟨b1, b2, b3⟩, c1, c2, c3, c4, c5, c6, c7, -⟩ := h q (by omega)
  rw [sv_t, gi_ff, c6, c7]
  constructor
  · intro ⟨h1, h2⟩
    refine ⟨h2, fun x x1 x2 x3 x4 => ?_⟩
    obtain ⟨d1, d2, -, -⟩ := ro_of h.ro hy x3
    have e1 : q < cn yt 0 x := (ro_lt h.ro (by omega)).mp x2
    have e2 : cn yt 0 x < j := by rw [hj, ← ro_lt h.ro d1, d2]; exact x1
    have e3 := (h _ d1).2
    have e4 : K (cn yt 0 x) = K q := by
      have e5 := e3.2.2.2.1
      rw [d2, x4, c4] at e5
      exact (nI_inj (by omega) (by have := e3.2.2.1; omega) e5).symm
    obtain ⟨z, z1, z2, z3, z4⟩ := hl _ e2
    rw [e4, h1] at z4
    have := nI_inj (by omega) (by omega) z4
    omega
  · intro ⟨h1, h2⟩
    refine ⟨?_, h1⟩
    obtain ⟨z, z1, z2, z3, z4⟩ := hl q hq
    rcases Nat.lt_or_ge q z with e | e
    · obtain ⟨⟨f1, f2, f3⟩, -, -, -, g4, -⟩ := h z (by omega)
      exact absurd (by rw [g4, c4, z3]) (h2 (O z) ((ro_lt h.ro (by omega)).mpr (by omega)) (ro_inc h.ro e (by omega)) f2)
    · have : z = q := by omega
      rw [z4, this]
theorem pt_eq (hb : Rb sc st en fb yb Bs) {k k2 : Nat} {x : Int32} (a1 : k < sc) (a2 : ∀ q, k < q → q < sc → ¬ fb q ≤ x) (a3 : 0 < k → fb k ≤ x) (b1 : k2 < sc) (b2 : ∀ q, k2 < q → q < sc → ¬ yb q ≤ x) (b3 : 0 < k2 → yb k2 ≤ x) : k = k2 := by
  rcases Nat.lt_trichotomy k k2 with h | h | h
  · have h1 := b3 (by omega)
    rw [(hb.2.1 k2 b1).2.1, ← (hb.2.1 k2 b1).1] at h1
    exact absurd h1 (a2 k2 h b1)
  · exact h
  · have h1 := a3 (by omega)
    rw [(hb.2.1 k a1).1, ← (hb.2.1 k a1).2.1] at h1
    exact absurd h1 (b2 k h a1)
theorem compact_eq {r0 r1 : Int32} {u0 : C0} {u1 : C1} (hR : Rel i (n, sc, st, en, du, fo, fk, fv, fr, fc, fb, fp, ft) (sc, st, en, du, th, yk, yv, yr, yt, yl, yb, yp, yg)) (hb : Rb sc st en fb yb Bs) (hr : Rr n en fo fk fv fr fc yk yv yr yt yl O K) (hi : i ≤ 4000)
    (h0 : ∃ (k j : Nat) (gt go gk gv gr gc ho hk hv hr hc : Nat → Int32), k < sc ∧ (∀ q, k < q → q < sc → ¬ fb q ≤ nI du) ∧ (0 < k → fb k ≤ nI du) ∧ ix fo n (fb k) j ∧ lat K gt j ∧ cv (sv K gt fr fc) fo fo go j ∧ cv (sv K gt fr fc) fk fk gk j ∧ cv (sv K gt fr fc) fv fv gv j ∧ cv (sv K gt fr fc) fr fr gr j ∧ cv (sv K gt fr fc) fc (fun _ => nI 1) gc j ∧ dr go ho (kp (sv K gt fr fc) j).length (j - (kp (sv K gt fr fc) j).length) n ∧ dr gk hk (kp (sv K gt fr fc) j).length (j - (kp (sv K gt fr fc) j).length) n ∧ dr gv hv (kp (sv K gt fr fc) j).length (j - (kp (sv K gt fr fc) j).length) n ∧ dr gr hr (kp (sv K gt fr fc) j).length (j - (kp (sv K gt fr fc) j).length) n ∧ dr gc hc (kp (sv K gt fr fc) j).length (j - (kp (sv K gt fr fc) j).length) n ∧ r0 = nI (j - (kp (sv K gt fr fc) j).length) ∧ u0 = (n - (j - (kp (sv K gt fr fc) j).length), sc, st, en, du, ho, hk, hv, hr, hc, fb, fp, gt))
    (h1 : ∃ (k : Nat) (zt zl zg : Nat → Int32), k < sc ∧ (∀ q, k < q → q < sc → ¬ yb q ≤ nI du) ∧ (0 < k → yb k ≤ nI du) ∧ c2t (fun q => gi yk yt yr yl q (Bs k)) yt zt st (max st (Bs k)) ∧ c2l yt yl zl st (max st (Bs k)) ∧ r1 = nI (cg (fun q => gi yk yt yr yl q (Bs k)) yt st (max st (Bs k))) ∧ u1 = (sc, st, en, du, th, yk, yv, yr, zt, zl, yb, yp, zg)) : r0 = r1 ∧ Rel (i + 1) u0 u1 := by
  obtain ⟨-, -, -, -, hn, hy, -, ⟨Ps, hp⟩, -⟩ := id hR
  obtain ⟨n1, n2, n3, n4, n5, n6⟩ := id hn
  obtain ⟨k, j, gt, go, gk, gv, gr, gc, ho, hk, hv, hw, hc, a1, a2, a3, a4, hlat, e1, e2, e3, e4, e5, d1, d2, d3, d4, d5, rfl, rfl⟩ := h0
  obtain ⟨k2, zt, zl, zg, b1, b2, b3, b4, b5, rfl, rfl⟩ := h1
  have hkk := pt_eq hb a1 a2 a3 b1 b2 b3
  subst hkk
  have hbk := (hb.2.1 k a1).2.2
  have hsk := rb_le2 hb (Nat.zero_le k) a1
  rw [hb.1] at hsk
  rw [Nat.max_eq_right hsk] at b4 b5 ⊢
  rw [(hb.2.1 k a1).1] at a4
  have hj := ix_rankN hr.ro hy (by omega) (rr_fo hr) (by omega) a4
  have hjn := a4.1
  obtain ⟨pt, hpt⟩ : ∃ pt, pt = Bs k := ⟨_, rfl⟩
  rw [← hpt] at b4 b5 hbk hsk hj ⊢
  obtain ⟨b, hbb⟩ : ∃ b, b = sv K gt fr fc := ⟨_, rfl⟩
  obtain ⟨g, hgg⟩ : ∃ g : Nat → Bool, g = fun q => gi yk yt yr yl q pt := ⟨_, rfl⟩
  rw [← hbb] at e1 e2 e3 e4 e5 d1 d2 d3 d4 d5 ⊢
  rw [← hgg] at b4 ⊢
  have hbg : ∀ q, q < j → b q = !(g (O q)) := fun q hq => by
    have h3 := sv_gi hr hy n6 hj hlat hq
    rw [← hbb] at h3
    rw [hgg]
    show b q = !(gi yk yt yr yl (O q) pt)
    cases h4 : gi yk yt yr yl (O q) pt
    · rw [h3.mpr h4]; rfl
    · cases h5 : b q
      · rfl
      · rw [h3.mp h5] at h4; cases h4
  obtain ⟨kl, hkl⟩ : ∃ kl, kl = (kp b j).length := ⟨_, rfl⟩
  have hklj : kl ≤ j := by rw [hkl]; exact kp_le b j
  have hzt : ∀ x, ¬ yt x = 0 → x < pt → zt x = bi (!(g x)) := fun x h2 h3 => by rw [b4 x, if_pos ⟨(ro_of hr.ro hy h2).2.2.1, h3, h2⟩]
  have hz0 : ∀ x, yt x = 0 → zt x = 0 := fun x h2 => by rw [b4 x, if_neg (fun h => h.2.2 h2)]; exact h2
  have hz1 : ∀ x, pt ≤ x → zt x = yt x := fun x h2 => by rw [b4 x, if_neg (by omega)]
  have clA : ∀ x, x ≤ pt → cn zt 0 x = (kp b (cn yt 0 x)).length := by
    intro x
    induction x with
    | zero => intro _; rw [cn_0 zt (Nat.le_refl 0), cn_0 yt (Nat.le_refl 0)]; rfl
    | succ x ih =>
      intro hx
      have ih := ih (by omega)
      by_cases h2 : yt x = 0
      · rw [cn_f (hz0 x h2), cn_f h2]; exact ih
      · obtain ⟨f1, f2, -, -⟩ := ro_of hr.ro hy h2
        have hlt : cn yt 0 x < j := by rw [hj, ← ro_lt hr.ro f1, f2]; omega
        have h3 := hbg _ hlt
        rw [f2] at h3
        have h4 := hzt x h2 (by omega)
        rw [cn_t (Nat.zero_le x) h2]
        cases h5 : g x
        · rw [h5] at h3 h4
          rw [kp_t h3, List.length_append, cn_t (Nat.zero_le x) (by rw [h4]; decide), ih]; rfl
        · rw [h5] at h3 h4
          rw [kp_f h3, cn_f (by rw [h4]; rfl), ih]
  have clP : cn zt 0 pt = kl := by rw [clA pt (Nat.le_refl pt), ← hj, hkl]
  have clB : ∀ x, pt ≤ x → cn zt 0 x = kl + (cn yt 0 x - j) := fun x hx => by
    rw [← cn_add zt (Nat.zero_le pt) hx, clP, cn_congr (g := yt) (fun q h3 _ => by rw [hz1 q h3]), cn_sub yt hx, hj]
  have clC : ∀ x, x ≤ pt → cg g yt 0 x + cn zt 0 x = cn yt 0 x := by
    intro x
    induction x with
    | zero => intro _; unfold cg; rw [cn_0 _ (Nat.le_refl 0), cn_0 zt (Nat.le_refl 0), cn_0 yt (Nat.le_refl 0)]
    | succ x ih =>
      intro hx
      have ih := ih (by omega)
      by_cases h2 : yt x = 0
      · rw [cg_f (Or.inl h2), cn_f (hz0 x h2), cn_f h2]; exact ih
      · have h4 := hzt x h2 (by omega)
        rw [cn_t (Nat.zero_le x) h2]
        cases h5 : g x
        · rw [h5] at h4
          rw [cg_f (Or.inr h5), cn_t (Nat.zero_le x) (by rw [h4]; decide)]; omega
        · rw [h5] at h4
          rw [cg_t (Nat.zero_le x) h2 h5, cn_f (by rw [h4]; rfl)]; omega
  have hcg : cg g yt st pt = j - kl := by
    have h2 := clC pt (Nat.le_refl pt)
    rw [clP, ← hj] at h2
    have h3 : cg g yt 0 st = 0 := cn_z _ (fun q _ h4 => by
      show (if g q then yt q else 0) = 0
      rw [hy.2.1 q h4]; split <;> rfl)
    have h4 : cg g yt 0 st + cg g yt st pt = cg g yt 0 pt := cn_add _ (Nat.zero_le st) hsk
    omega
  rw [← hkl] at d1 d2 d3 d4 d5 ⊢
  refine ⟨by rw [hcg], ?_⟩
  -- the new places
  have hlo : ∀ q, q < kl → ∃ x, (kp b j)[q]? = some x ∧ x < j ∧ b x = true ∧ (kp b x).length = q := fun q hq => by
    have h3 : q < (kp b j).length := by omega
    exact ⟨_, List.getElem?_eq_getElem h3, kp_idx (List.getElem?_eq_getElem h3)⟩
  obtain ⟨σ, hσ⟩ : ∃ σ : Nat → Nat, σ = fun q => if q < kl then (kp b j).getD q 0 else q + (j - kl) := ⟨_, rfl⟩
  have s1 : ∀ q, q < kl → (kp b j)[q]? = some (σ q) ∧ σ q < j ∧ b (σ q) = true ∧ (kp b (σ q)).length = q := fun q hq => by
    obtain ⟨x, x1, x2, x3, x4⟩ := hlo q hq
    have : σ q = x := by
      rw [hσ]
      show (if q < kl then (kp b j).getD q 0 else q + (j - kl)) = x
      rw [if_pos hq, List.getD_eq_getElem?_getD, x1]; rfl
    rw [this]; exact ⟨x1, x2, x3, x4⟩
  have s2 : ∀ q, ¬ q < kl → σ q = q + (j - kl) := fun q hq => by
    rw [hσ]
    show (if q < kl then (kp b j).getD q 0 else q + (j - kl)) = q + (j - kl)
    rw [if_neg hq]
  have row : ∀ {f h2 g2 h3 : Nat → Int32}, cv b f h2 g2 j → dr g2 h3 kl (j - kl) n → ∀ q, q < n - (j - kl) → h3 q = if q < kl then h2 (σ q) else f (σ q) := by
    intro f h2 g2 h3 c1 c2 q hq
    rw [dr_at c2 hq]
    by_cases h4 : q < kl
    · rw [if_pos h4, if_pos h4]; exact c1.1 q _ (s1 q h4).1
    · rw [if_neg h4, if_neg h4, s2 q h4]; exact c1.2 _ (by omega)
  have same : ∀ {f g2 h3 : Nat → Int32}, cv b f f g2 j → dr g2 h3 kl (j - kl) n → ∀ q, q < n - (j - kl) → h3 q = f (σ q) := by
    intro f g2 h3 c1 c2 q hq
    rw [row c1 c2 q hq]; split <;> rfl
  refine ⟨rfl, rfl, rfl, rfl, ⟨by omega, n2, by omega, n4, n5, by omega⟩, ⟨fun q hq => hz0 q (hy.1 q hq), fun q hq => hz0 q (hy.2.1 q hq), ?_⟩, ⟨Bs, hb⟩, ⟨Ps, hp⟩, _, _, rr_re hr σ (fun q hq => ?_) (fun q hq => ?_) (same e1 d1) (same e2 d2) (same e3 d3) (same e4 d4) (fun q hq => ?_)⟩
  · rw [clB en hbk, ← hy.2.2]; omega
  · by_cases h4 : q < kl
    · have := (s1 q h4).2.1
      omega
    · rw [s2 q h4]; omega
  · by_cases h4 : q < kl
    · obtain ⟨-, x2, x3, x4⟩ := s1 q h4
      obtain ⟨f1, f2, f3⟩ := hr.ro (σ q) (by omega)
      have hlt : O (σ q) < pt := (ro_lt hr.ro (by omega)).mpr (by omega)
      have h5 := hbg _ x2
      rw [x3] at h5
      have h6 : g (O (σ q)) = false := by
        cases h7 : g (O (σ q))
        · rfl
        · rw [h7] at h5; cases h5
      refine ⟨f1, by rw [hzt _ f2 hlt, h6]; decide, ?_⟩
      rw [clA _ (by omega), f3]; exact x4
    · rw [s2 q h4]
      obtain ⟨f1, f2, f3⟩ := hr.ro (q + (j - kl)) (by omega)
      have hge : pt ≤ O (q + (j - kl)) := by
        rcases Nat.lt_or_ge (O (q + (j - kl))) pt with h5 | h5
        · rw [ro_lt hr.ro (by omega)] at h5
          omega
        · exact h5
      refine ⟨f1, by rw [hz1 _ hge]; exact f2, ?_⟩
      rw [clB _ hge, f3]; omega
  · rw [row e5 d5 q hq]
    by_cases h4 : q < kl
    · rw [if_pos h4]
      obtain ⟨-, x2, x3, x4⟩ := s1 q h4
      obtain ⟨f1, f2, f3⟩ := hr.ro (σ q) (by omega)
      have hlt : O (σ q) < pt := (ro_lt hr.ro (by omega)).mpr (by omega)
      rw [b5 (O (σ q)), if_pos ⟨(ro_of hr.ro hy f2).2.2.1, hlt, f2⟩]
      exact ⟨rfl, Or.inr rfl⟩
    · rw [if_neg h4, s2 q h4]
      obtain ⟨⟨f1, f2, f3⟩, c1⟩ := hr (q + (j - kl)) (by omega)
      have hge : pt ≤ O (q + (j - kl)) := by
        rcases Nat.lt_or_ge (O (q + (j - kl))) pt with h5 | h5
        · rw [ro_lt hr.ro (by omega)] at h5
          omega
        · exact h5
      rw [b5 (O (q + (j - kl))), if_neg (by omega)]
      exact ⟨c1.2.2.2.2.2.2.1, c1.2.2.2.2.2.2.2.2⟩
end PC
