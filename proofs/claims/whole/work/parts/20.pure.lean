-- ===== the class's rows beside the reference's: which record stands where =====
theorem q_clamp {q : Nat} (x : Int32) (hq : q < 2 ^ 31) : nI q < x ↔ q < x.toNatClampNeg := by
  by_cases h : x < 0
  · have h0 : x.toNatClampNeg = 0 := by
      have h1 : x.toInt < 0 := by simpa using Int32.lt_iff_toInt_lt.mp h
      show x.toInt.toNat = 0
      omega
    rw [h0]
    exact ⟨fun h2 => absurd (Int32.lt_trans h2 h) (nI_pos hq), fun h2 => absurd h2 (Nat.not_lt_zero q)⟩
  · obtain ⟨j, hj, rfl⟩ := nI_of h
    rw [nI_clamp hj]; exact nI_ltI hq hj
theorem cn_mono (f : Nat → Int32) {x y : Nat} (h : x ≤ y) : cn f 0 x ≤ cn f 0 y := by
  have := cn_add f (Nat.zero_le x) h
  omega
theorem cn_sub (f : Nat → Int32) {a b : Nat} (h : a ≤ b) : cn f a b = cn f 0 b - cn f 0 a := by
  have := cn_add f (Nat.zero_le a) h
  omega
theorem cn_z (f : Nat → Int32) {a b : Nat} (h : ∀ q, a ≤ q → q < b → f q = 0) : cn f a b = 0 := by
  induction b with
  | zero => exact cn_0 f (Nat.zero_le a)
  | succ b ih =>
    rw [cn_s, ih (fun q h1 h2 => h q h1 (by omega))]
    by_cases h1 : a ≤ b
    · rw [if_neg (fun h2 => h2.2 (h b h1 (by omega)))]
    · rw [if_neg (fun h2 => h1 h2.1)]
/-- the numbers, the bases, the positions, what is there, the records -/
def Rn (i n sc st en du : Nat) : Prop := en ≤ i ∧ 1 ≤ sc ∧ sc ≤ i + 1 ∧ st ≤ du ∧ du ≤ en ∧ n ≤ 60
def Rb (sc st en : Nat) (fb yb : Nat → Int32) (Bs : Nat → Nat) : Prop := Bs 0 = st ∧ (∀ k, k < sc → fb k = nI (Bs k) ∧ yb k = nI (Bs k) ∧ Bs k ≤ en) ∧ ∀ k, k + 1 < sc → Bs k ≤ Bs (k + 1)
def Rp (en : Nat) (fp yp : Nat → Int32) (Ps : Nat → Nat) : Prop := ∀ g, g < 4 → fp g = nI (Ps g) ∧ yp g = nI (Ps g) ∧ Ps g ≤ en
def Ry (n st en : Nat) (yt : Nat → Int32) : Prop := (∀ q, en ≤ q → yt q = 0) ∧ (∀ q, q < st → yt q = 0) ∧ n = cn yt 0 en
def Rq (fo fk fv fr fc yk yv yr yl : Nat → Int32) (O K : Nat → Nat) (i : Nat) : Prop := fo i = nI (O i) ∧ fk i = nI (K i) ∧ K i < 16 ∧ yk (O i) = nI (K i) ∧ fv i = yv (O i) ∧ fr i = yr (O i) ∧ fc i = yl (O i) ∧ (fr i = nI 0 ∨ (fr i = nI 1 ∧ fv i = nI 0)) ∧ (fc i = nI 0 ∨ fc i = nI 1)
def Rr (n en : Nat) (fo fk fv fr fc yk yv yr yt yl : Nat → Int32) (O K : Nat → Nat) : Prop := ∀ i, i < n → (O i < en ∧ ¬ yt (O i) = 0 ∧ cn yt 0 (O i) = i) ∧ Rq fo fk fv fr fc yk yv yr yl O K i
/-- where the records stand -/
def Ro (n en : Nat) (yt : Nat → Int32) (O : Nat → Nat) : Prop := ∀ i, i < n → O i < en ∧ ¬ yt (O i) = 0 ∧ cn yt 0 (O i) = i
theorem Rr.ro {n en : Nat} {fo fk fv fr fc yk yv yr yt yl : Nat → Int32} {O K : Nat → Nat} (h : Rr n en fo fk fv fr fc yk yv yr yt yl O K) : Ro n en yt O := fun i hi => (h i hi).1
theorem ro_lt {n en : Nat} {yt : Nat → Int32} {O : Nat → Nat} (h : Ro n en yt O) {i x : Nat} (hi : i < n) : O i < x ↔ i < cn yt 0 x := by
  obtain ⟨h1, h2, h3⟩ := h i hi
  constructor
  · intro hx
    have h4 := cn_mono yt (show O i + 1 ≤ x by omega)
    rw [cn_t (Nat.zero_le _) h2, h3] at h4
    omega
  · intro hx
    rcases Nat.lt_or_ge (O i) x with h4 | h4
    · exact h4
    · have := cn_mono yt h4
      omega
theorem ro_of {n st en : Nat} {yt : Nat → Int32} {O : Nat → Nat} (h : Ro n en yt O) (hy : Ry n st en yt) {q : Nat} (hq : ¬ yt q = 0) : cn yt 0 q < n ∧ O (cn yt 0 q) = q ∧ st ≤ q ∧ q < en := by
  have hqe : q < en := (Nat.lt_or_ge q en).elim id (fun h1 => absurd (hy.1 q h1) hq)
  have hqs : st ≤ q := (Nat.lt_or_ge q st).elim (fun h1 => absurd (hy.2.1 q h1) hq) id
  have h1 := cn_mono yt (show q + 1 ≤ en by omega)
  rw [cn_t (Nat.zero_le _) hq] at h1
  have hn : cn yt 0 q < n := by rw [hy.2.2]; omega
  obtain ⟨h2, h3, h4⟩ := h _ hn
  refine ⟨hn, ?_, hqs, hqe⟩
  rcases Nat.lt_trichotomy (O (cn yt 0 q)) q with h5 | h5 | h5
  · have := (ro_lt h hn).mp h5
    omega
  · exact h5
  · have h6 := cn_mono yt (show q + 1 ≤ O (cn yt 0 q) by omega)
    rw [cn_t (Nat.zero_le _) hq, h4] at h6
    omega
theorem ro_inc {n en : Nat} {yt : Nat → Int32} {O : Nat → Nat} (h : Ro n en yt O) {i j : Nat} (hij : i < j) (hj : j < n) : O i < O j := by
  rw [ro_lt h (by omega), (h j hj).2.2]; exact hij
theorem cn_cap {n st en : Nat} {yt : Nat → Int32} (hy : Ry n st en yt) (x : Nat) : cn yt 0 x ≤ n := by
  rw [hy.2.2]
  rcases Nat.lt_or_ge x en with h | h
  · exact cn_mono yt (by omega)
  · rw [← cn_add yt (Nat.zero_le en) h, cn_z yt (fun q h1 _ => hy.1 q h1)]
    omega
/-- the place of the first record at x or above is how many are below -/
theorem ix_rank {n st en : Nat} {fo yt : Nat → Int32} {O : Nat → Nat} (h : Ro n en yt O) (hy : Ry n st en yt) (hen : en < 2 ^ 31) (hf : ∀ i, i < n → fo i = nI (O i)) {x : Int32} {j : Nat} (hj : ix fo n x j) : j = cn yt 0 x.toNatClampNeg := by
  obtain ⟨h1, h2, h3⟩ := hj
  have hc := cn_cap hy x.toNatClampNeg
  have key : ∀ i, i < n → (fo i < x ↔ i < cn yt 0 x.toNatClampNeg) := fun i hi => by
    rw [hf i hi, q_clamp x (by have := (h i hi).1; omega), ro_lt h hi]
  have a1 : j ≤ cn yt 0 x.toNatClampNeg := by
    rcases Nat.eq_zero_or_pos j with h4 | h4
    · omega
    · have := (key (j - 1) (by omega)).mp (h2 (j - 1) (by omega))
      omega
  rcases Nat.lt_or_ge j n with h5 | h5
  · have := h3 h5
    rw [key j h5] at this
    omega
  · omega
theorem ix_rankN {n st en : Nat} {fo yt : Nat → Int32} {O : Nat → Nat} (h : Ro n en yt O) (hy : Ry n st en yt) (hen : en < 2 ^ 31) (hf : ∀ i, i < n → fo i = nI (O i)) {x : Nat} (hx : x < 2 ^ 31) {j : Nat} (hj : ix fo n (nI x) j) : j = cn yt 0 x := by
  have := ix_rank h hy hen hf hj
  rw [nI_clamp hx] at this
  exact this
-- ===== the answers of the calls that change nothing =====
section PR
variable {i n sc st en du : Nat} {fo fk fv fr fc fb fp yk yv yr yt yl yb yp : Nat → Int32} {O K Bs Ps : Nat → Nat}
theorem rr_fo (h : Rr n en fo fk fv fr fc yk yv yr yt yl O K) : ∀ i, i < n → fo i = nI (O i) := fun i hi => (h i hi).2.1
/-- the reference's next, as a place -/
def nx1 (st en : Nat) (yt : Nat → Int32) (x : Int32) (r : Int32) : Prop := (∃ k, st ≤ k ∧ k < en ∧ ¬ nI k < x ∧ ¬ yt k = 0 ∧ (∀ q, st ≤ q → q < k → ¬ nI q < x → yt q = 0) ∧ r = nI k) ∨ ((∀ q, st ≤ q → q < en → ¬ nI q < x → yt q = 0) ∧ r = -1)
theorem nx_eq (h : Rr n en fo fk fv fr fc yk yv yr yt yl O K) (hy : Ry n st en yt) (hen : en < 2 ^ 31) {x : Int32} {j : Nat} (hj : ix fo n x j) {r1 : Int32} (h1 : nx1 st en yt x r1) : (j < n ∧ r1 = fo j) ∨ (j = n ∧ r1 = -1) := by
  have hr := ix_rank h.ro hy hen (rr_fo h) hj
  rcases h1 with ⟨k, k1, k2, k3, k4, k5, rfl⟩ | ⟨k5, rfl⟩
  · obtain ⟨a1, a2, -, -⟩ := ro_of h.ro hy k4
    rw [q_clamp x (by omega)] at k3
    have h2 := cn_add yt (Nat.zero_le x.toNatClampNeg) (show x.toNatClampNeg ≤ k by omega)
    rw [cn_z yt (a := x.toNatClampNeg) (b := k) (fun q q1 q2 => by
      rcases Nat.lt_or_ge q st with h3 | h3
      · exact hy.2.1 q h3
      · exact k5 q h3 q2 (by rw [q_clamp x (by omega)]; omega))] at h2
    have hjk : j = cn yt 0 k := by omega
    rw [← hjk] at a1 a2
    exact Or.inl ⟨a1, by rw [rr_fo h j a1, a2]⟩
  · refine Or.inr ⟨?_, rfl⟩
    have hc := cn_cap hy x.toNatClampNeg
    rcases Nat.lt_or_ge x.toNatClampNeg en with h3 | h3
    · have h2 := cn_add yt (Nat.zero_le x.toNatClampNeg) (show x.toNatClampNeg ≤ en by omega)
      rw [cn_z yt (a := x.toNatClampNeg) (b := en) (fun q q1 q2 => by
        rcases Nat.lt_or_ge q st with h4 | h4
        · exact hy.2.1 q h4
        · exact k5 q h4 q2 (by rw [q_clamp x (by omega)]; omega))] at h2
      have := hy.2.2
      omega
    · have h2 := cn_mono yt h3
      have := hy.2.2
      omega
theorem lag_eq (h : Rr n en fo fk fv fr fc yk yv yr yt yl O K) (hy : Ry n st en yt) (hen : en < 2 ^ 31) {a j : Nat} (ha : a ≤ en) (hj : ix fo n (nI a) j) : n - j = cn yt a en := by
  have hr := ix_rankN h.ro hy hen (rr_fo h) (by omega) hj
  rw [cn_sub yt ha, ← hy.2.2, hr]
/-- the latest record of a key -/
theorem latest_eq (h : Rr n en fo fk fv fr fc yk yv yr yt yl O K) (hy : Ry n st en yt) {x r0 r1 : Int32}
    (h0 : (∃ i, i < n ∧ fk i = x ∧ (∀ q, i < q → q < n → ¬ fk q = x) ∧ ((fr i = 0 ∧ r0 = fo i) ∨ (¬ fr i = 0 ∧ r0 = -1))) ∨ ((∀ q, q < n → ¬ fk q = x) ∧ r0 = -1))
    (h1 : (∃ k, st ≤ k ∧ k < en ∧ ¬ yt k = 0 ∧ yk k = x ∧ (∀ q, k < q → q < en → ¬ (¬ yt q = 0 ∧ yk q = x)) ∧ ((yr k = 0 ∧ r1 = nI k) ∨ (¬ yr k = 0 ∧ r1 = -1))) ∨ ((∀ q, st ≤ q → q < en → ¬ (¬ yt q = 0 ∧ yk q = x)) ∧ r1 = -1)) : r0 = r1 := by
  rcases h0 with ⟨i, a1, a2, a3, a4⟩ | ⟨a3, rfl⟩
  · obtain ⟨⟨b1, b2, b3⟩, c1, c2, c3, c4, c5, c6, c7, c8⟩ := h i a1
    have hst := (ro_of h.ro hy b2).2.2.1
    have hxk : yk (O i) = x := by rw [c4, ← c2]; exact a2
    rcases h1 with ⟨k, k1, k2, k3, k4, k5, k6⟩ | ⟨k5, rfl⟩
    · obtain ⟨d1, d2, -, -⟩ := ro_of h.ro hy k3
      have hik : O i = k := by
        rcases Nat.lt_trichotomy (O i) k with e | e | e
        · rw [ro_lt h.ro a1] at e
          have := (h _ d1).2
          exact absurd (by rw [this.2.1, ← this.2.2.2.1, d2]; exact k4) (a3 _ e d1)
        · exact e
        · exact absurd ⟨b2, hxk⟩ (k5 (O i) e b1)
      rw [hik] at c1 c6
      rw [c6, c1] at a4
      rcases a4 with ⟨e1, e2⟩ | ⟨e1, e2⟩ <;> rcases k6 with ⟨e3, e4⟩ | ⟨e3, e4⟩
      · rw [e2, e4]
      · exact absurd e1 e3
      · exact absurd e3 e1
      · rw [e2, e4]
    · exact absurd ⟨b2, hxk⟩ (k5 (O i) hst b1)
  · rcases h1 with ⟨k, k1, k2, k3, k4, k5, k6⟩ | ⟨k5, rfl⟩
    · obtain ⟨d1, d2, -, -⟩ := ro_of h.ro hy k3
      have := (h _ d1).2
      exact absurd (by rw [this.2.1, ← this.2.2.2.1, d2]; exact k4) (a3 _ d1)
    · rfl
theorem base_eq (hb : Rb sc st en fb yb Bs) {x r0 r1 : Int32} (hs : sc < 2 ^ 31) (h0 : (∃ k, k < sc ∧ x = nI k ∧ r0 = fb k) ∨ ((∀ k, k < sc → ¬ x = nI k) ∧ r0 = -1)) (h1 : (∃ k, k < sc ∧ x = nI k ∧ r1 = yb k) ∨ ((∀ k, k < sc → ¬ x = nI k) ∧ r1 = -1)) : r0 = r1 := by
  rcases h0 with ⟨k, a1, a2, rfl⟩ | ⟨a1, rfl⟩ <;> rcases h1 with ⟨k2, b1, b2, rfl⟩ | ⟨b1, rfl⟩
  · have := nI_inj (by omega) (by omega) (a2.symm.trans b2)
    subst this
    rw [(hb.2.1 k a1).1, (hb.2.1 k a1).2.1]
  · exact absurd a2 (b1 k a1)
  · exact absurd b2 (a1 k2 b1)
  · rfl
theorem gp_in {x : Int32} {g g2 : Nat} (h : gp x g) (h2 : gp x g2) : g = g2 := nI_inj (by have := h.1; omega) (by have := h2.1; omega) (h.2.symm.trans h2.2)
theorem position_eq (hp : Rp en fp yp Ps) {x r0 r1 : Int32} (h0 : (∃ g, gp x g ∧ r0 = fp g) ∨ ((∀ g, ¬ gp x g) ∧ r0 = -1)) (h1 : (∃ g, gp x g ∧ r1 = yp g) ∨ ((∀ g, ¬ gp x g) ∧ r1 = -1)) : r0 = r1 := by
  rcases h0 with ⟨g, a1, rfl⟩ | ⟨a1, rfl⟩ <;> rcases h1 with ⟨g2, b1, rfl⟩ | ⟨b1, rfl⟩
  · cases gp_in a1 b1
    rw [(hp g a1.1).1, (hp g a1.1).2.1]
  · exact absurd a1 (b1 g)
  · exact absurd b1 (a1 g2)
  · rfl
theorem lags_eq (h : Rr n en fo fk fv fr fc yk yv yr yt yl O K) (hy : Ry n st en yt) (hp : Rp en fp yp Ps) (hen : en < 2 ^ 31) {x r0 r1 : Int32} (h0 : (∃ g j, gp x g ∧ ix fo n (fp g) j ∧ r0 = nI (n - j)) ∨ ((∀ g, ¬ gp x g) ∧ r0 = -1)) (h1 : (∃ g, gp x g ∧ r1 = nI (cn yt (Ps g) en)) ∨ ((∀ g, ¬ gp x g) ∧ r1 = -1)) : r0 = r1 := by
  rcases h0 with ⟨g, j, a1, a2, rfl⟩ | ⟨a1, rfl⟩ <;> rcases h1 with ⟨g2, b1, rfl⟩ | ⟨b1, rfl⟩
  · cases gp_in a1 b1
    rw [(hp g a1.1).1] at a2
    rw [lag_eq h hy hen (hp g a1.1).2.2 a2]
  · exact absurd a1 (b1 g)
  · exact absurd b1 (a1 g2)
  · rfl
end PR
