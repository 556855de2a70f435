section PD
variable {i n sc st en du th : Nat} {fo fk fv fr fc fb fp ft yk yv yr yt yl yb yp yg : Nat → Int32} {O K Bs Ps : Nat → Nat}
theorem rel_up (hR : Rel i (n, sc, st, en, du, fo, fk, fv, fr, fc, fb, fp, ft) (sc, st, en, du, th, yk, yv, yr, yt, yl, yb, yp, yg)) {ft2 yg2 : Nat → Int32} {th2 : Nat} : Rel (i + 1) (n, sc, st, en, du, fo, fk, fv, fr, fc, fb, fp, ft2) (sc, st, en, du, th2, yk, yv, yr, yt, yl, yb, yp, yg2) := by
  obtain ⟨-, -, -, -, hn, hy, hb, hp, hr⟩ := hR
  exact ⟨rfl, rfl, rfl, rfl, rn_up hn, hy, hb, hp, hr⟩
theorem flush_eq (hR : Rel i (n, sc, st, en, du, fo, fk, fv, fr, fc, fb, fp, ft) (sc, st, en, du, th, yk, yv, yr, yt, yl, yb, yp, yg)) : Rel (i + 1) (n, sc, st, en, en, fo, fk, fv, fr, fc, fb, fp, ft) (sc, st, en, en, th, yk, yv, yr, yt, yl, yb, yp, yg) := by
  obtain ⟨-, -, -, -, hn, hy, hb, hp, hr⟩ := hR
  obtain ⟨n1, n2, n3, n4, n5, n6⟩ := hn
  exact ⟨rfl, rfl, rfl, rfl, ⟨by omega, n2, by omega, by omega, Nat.le_refl en, n6⟩, hy, hb, hp, hr⟩
theorem roll_eq {r0 r1 : Int32} {u0 : C0} {u1 : C1} (hR : Rel i (n, sc, st, en, du, fo, fk, fv, fr, fc, fb, fp, ft) (sc, st, en, du, th, yk, yv, yr, yt, yl, yb, yp, yg))
    (h0 : (fb (sc - 1) = nI en ∧ r0 = nI 0 ∧ u0 = (n, sc, st, en, du, fo, fk, fv, fr, fc, fb, fp, ft)) ∨ (¬ fb (sc - 1) = nI en ∧ r0 = nI 1 ∧ u0 = (n, sc + 1, st, en, du, fo, fk, fv, fr, fc, upd fb sc (nI en), fp, ft)))
    (h1 : (yb (sc - 1) = nI en ∧ r1 = nI 0 ∧ u1 = (sc, st, en, du, th, yk, yv, yr, yt, yl, yb, yp, yg)) ∨ (¬ yb (sc - 1) = nI en ∧ r1 = nI 1 ∧ u1 = (sc + 1, st, en, du, th, yk, yv, yr, yt, yl, upd yb sc (nI en), yp, yg))) : r0 = r1 ∧ Rel (i + 1) u0 u1 := by
  obtain ⟨-, -, -, -, hn, hy, ⟨Bs, hb⟩, hp, hr⟩ := id hR
  obtain ⟨n1, n2, n3, n4, n5, n6⟩ := hn
  have hs := hb.2.1 (sc - 1) (by omega)
  have he : fb (sc - 1) = yb (sc - 1) := by rw [hs.1, hs.2.1]
  rcases h0 with ⟨a1, rfl, rfl⟩ | ⟨a1, rfl, rfl⟩ <;> rcases h1 with ⟨b1, rfl, rfl⟩ | ⟨b1, rfl, rfl⟩
  · exact ⟨rfl, rel_up hR⟩
  · exact absurd (he.symm.trans a1) b1
  · exact absurd (he.trans b1) a1
  · exact ⟨rfl, rfl, rfl, rfl, rfl, ⟨by omega, by omega, by omega, n4, n5, n6⟩, hy, ⟨_, rb_push hb (Nat.le_refl sc) (fun h => by omega) (fun q hq => (hb.2.1 q hq).2.2) (Nat.le_refl en)⟩, hp, hr⟩
theorem rp_set (hp : Rp en fp yp Ps) {g k : Nat} (hk : k ≤ en) {v w : Int32} (hv : v = nI k) (hw : w = nI k) : Rp en (upd fp g v) (upd yp g w) (fun q => if q = g then k else Ps q) := fun q hq => by
  show upd fp g v q = nI (if q = g then k else Ps q) ∧ upd yp g w q = nI (if q = g then k else Ps q) ∧ (if q = g then k else Ps q) ≤ en
  by_cases e : q = g
  · subst e
    rw [pk_us, pk_us, if_pos rfl]; exact ⟨hv, hw, hk⟩
  · rw [pk_un e, pk_un e, if_neg e]; exact hp q hq
theorem poll_eq {x r0 r1 : Int32} {u0 : C0} {u1 : C1} (hR : Rel i (n, sc, st, en, du, fo, fk, fv, fr, fc, fb, fp, ft) (sc, st, en, du, th, yk, yv, yr, yt, yl, yb, yp, yg)) (hi : i ≤ 4000)
    (h0 : (∃ g j, gp x g ∧ ix fo n (fp g) j ∧ ((j = n ∧ r0 = -1 ∧ u0 = (n, sc, st, en, du, fo, fk, fv, fr, fc, fb, fp, ft)) ∨ (j < n ∧ r0 = fo j ∧ u0 = (n, sc, st, en, du, fo, fk, fv, fr, fc, fb, upd fp g (fo j + nI 1), ft)))) ∨ ((∀ g, ¬ gp x g) ∧ r0 = -1 ∧ u0 = (n, sc, st, en, du, fo, fk, fv, fr, fc, fb, fp, ft)))
    (h1 : (∃ g, gp x g ∧ ((∃ k, st ≤ k ∧ k < en ∧ ¬ nI k < yp g ∧ ¬ yt k = 0 ∧ (∀ q, st ≤ q → q < k → ¬ nI q < yp g → yt q = 0) ∧ r1 = nI k ∧ u1 = (sc, st, en, du, th, yk, yv, yr, yt, yl, yb, upd yp g (nI (k + 1)), yg)) ∨ ((∀ q, st ≤ q → q < en → ¬ nI q < yp g → yt q = 0) ∧ r1 = -1 ∧ u1 = (sc, st, en, du, th, yk, yv, yr, yt, yl, yb, yp, yg)))) ∨ ((∀ g, ¬ gp x g) ∧ r1 = -1 ∧ u1 = (sc, st, en, du, th, yk, yv, yr, yt, yl, yb, yp, yg))) : r0 = r1 ∧ Rel (i + 1) u0 u1 := by
  obtain ⟨-, -, -, -, hn, hy, hb, ⟨Ps, hp⟩, O, K, hr⟩ := id hR
  obtain ⟨n1, n2, n3, n4, n5, n6⟩ := id hn
  rcases h0 with ⟨g, j, a1, a2, a3⟩ | ⟨a1, rfl, rfl⟩ <;> rcases h1 with ⟨g2, b1, b2⟩ | ⟨b1, rfl, rfl⟩
  · cases gp_in a1 b1
    have hpg := hp g a1.1
    have he : yp g = fp g := by rw [hpg.1, hpg.2.1]
    rw [he] at b2
    rcases b2 with ⟨k, k1, k2, k3, k4, k5, rfl, rfl⟩ | ⟨k5, rfl, rfl⟩
    · have h2 := nx_eq hr hy (by omega) a2 (r1 := nI k) (Or.inl ⟨k, k1, k2, k3, k4, k5, rfl⟩)
      rcases h2 with ⟨c1, c2⟩ | ⟨c1, c2⟩
      · rcases a3 with ⟨d1, rfl, rfl⟩ | ⟨d1, rfl, rfl⟩
        · omega
        · refine ⟨c2.symm, rfl, rfl, rfl, rfl, rn_up hn, hy, hb, ⟨_, rp_set hp (k := k + 1) (by omega) (by rw [← c2]; exact nI_add k 1) rfl⟩, O, K, hr⟩
      · exact absurd (by rw [c2]; decide) (nI_pos (show k < 2 ^ 31 by omega))
    · have h2 := nx_eq hr hy (by omega) a2 (r1 := -1) (Or.inr ⟨k5, rfl⟩)
      rcases a3 with ⟨d1, rfl, rfl⟩ | ⟨d1, rfl, rfl⟩
      · exact ⟨rfl, rel_up hR⟩
      · rcases h2 with ⟨c1, c2⟩ | ⟨c1, c2⟩
        · have := (rr_fo hr j d1)
          rw [this] at c2
          exact absurd (by rw [← c2]; decide) (nI_pos (show O j < 2 ^ 31 by have := (hr.ro j d1).1; omega))
        · omega
  · exact absurd a1 (b1 g)
  · exact absurd b1 (a1 g2)
  · exact ⟨rfl, rel_up hR⟩
theorem commit_eq {x y r0 r1 : Int32} {u0 : C0} {u1 : C1} (hR : Rel i (n, sc, st, en, du, fo, fk, fv, fr, fc, fb, fp, ft) (sc, st, en, du, th, yk, yv, yr, yt, yl, yb, yp, yg)) (hi : i ≤ 4000)
    (h0 : (∃ g, gp x g ∧ ¬ y < nI st ∧ y ≤ nI en ∧ r0 = nI 1 ∧ u0 = (n, sc, st, en, du, fo, fk, fv, fr, fc, fb, upd fp g y, ft)) ∨ (((∀ g, ¬ gp x g) ∨ y < nI st ∨ ¬ y ≤ nI en) ∧ r0 = nI 0 ∧ u0 = (n, sc, st, en, du, fo, fk, fv, fr, fc, fb, fp, ft)))
    (h1 : (∃ g, gp x g ∧ ¬ y < nI st ∧ y ≤ nI en ∧ r1 = nI 1 ∧ u1 = (sc, st, en, du, th, yk, yv, yr, yt, yl, yb, upd yp g y, yg)) ∨ (((∀ g, ¬ gp x g) ∨ y < nI st ∨ ¬ y ≤ nI en) ∧ r1 = nI 0 ∧ u1 = (sc, st, en, du, th, yk, yv, yr, yt, yl, yb, yp, yg))) : r0 = r1 ∧ Rel (i + 1) u0 u1 := by
  obtain ⟨-, -, -, -, hn, hy, hb, ⟨Ps, hp⟩, hr⟩ := id hR
  obtain ⟨n1, n2, n3, n4, n5, n6⟩ := id hn
  have bad : ∀ g, gp x g → ¬ y < nI st → y ≤ nI en → ¬ ((∀ g, ¬ gp x g) ∨ y < nI st ∨ ¬ y ≤ nI en) := fun g c1 c2 c3 c4 => by
    rcases c4 with c4 | c4 | c4
    · exact c4 g c1
    · exact c2 c4
    · exact c4 c3
  rcases h0 with ⟨g, a1, a2, a3, rfl, rfl⟩ | ⟨a1, rfl, rfl⟩ <;> rcases h1 with ⟨g2, b1, b2, b3, rfl, rfl⟩ | ⟨b1, rfl, rfl⟩
  · cases gp_in a1 b1
    have h2 : ¬ y < 0 := fun h => a2 (Int32.lt_of_lt_of_le h (nI_pos' (by omega)))
    obtain ⟨k, hk, rfl⟩ := nI_of h2
    have := q_le hk (by omega) a3
    exact ⟨rfl, rfl, rfl, rfl, rfl, rn_up hn, hy, hb, ⟨_, rp_set hp (k := k) this rfl rfl⟩, hr⟩
  · exact absurd b1 (bad g a1 a2 a3)
  · exact absurd a1 (bad g2 b1 b2 b3)
  · exact ⟨rfl, rel_up hR⟩
/-- value and key: what the class throws or answers is what the reference says -/
theorem vk_eq {x r : Int32} {u1 : C1} {p1 : Nat → Prop} {p0 : Nat → Prop} (hR : Rel i (n, sc, st, en, du, fo, fk, fv, fr, fc, fb, fp, ft) (sc, st, en, du, th, yk, yv, yr, yt, yl, yb, yp, yg)) (hr : Rr n en fo fk fv fr fc yk yv yr yt yl O K) (hi : i ≤ 4000)
    (h0 : (r = nI 0 ∧ ∃ j, j < n ∧ ix fo n x j ∧ fo j = x ∧ p0 j) ∨ (r = nI 1 ∧ (x < nI st ∨ nI en ≤ x)) ∨ (r = nI 2 ∧ ¬ x < nI st ∧ x < nI en ∧ ∃ j, ix fo n x j ∧ (j = n ∨ (j < n ∧ ¬ fo j = x))))
    (h1 : ((x < nI st ∨ nI en ≤ x) ∧ u1 = (sc, st, en, du, 1, yk, yv, yr, yt, yl, yb, yp, yg)) ∨ (∃ q, x = nI q ∧ st ≤ q ∧ q < en ∧ ((yt q = 0 ∧ u1 = (sc, st, en, du, 2, yk, yv, yr, yt, yl, yb, yp, yg)) ∨ (¬ yt q = 0 ∧ p1 q ∧ u1 = (sc, st, en, du, 0, yk, yv, yr, yt, yl, yb, yp, yg))))) :
    ∃ t, t < 3 ∧ u1 = (sc, st, en, du, t, yk, yv, yr, yt, yl, yb, yp, yg) ∧ r = nI t ∧ (t = 0 → ∃ j, j < n ∧ p0 j ∧ p1 (O j)) := by
  obtain ⟨-, -, -, -, hn, hy, -⟩ := id hR
  obtain ⟨n1, n2, n3, n4, n5, n6⟩ := id hn
  have out : ∀ q, q < en → st ≤ q → ¬ (nI q < nI st ∨ nI en ≤ nI q) := fun q q1 q2 q3 => by
    rcases q3 with q3 | q3
    · have := q_lt (by omega) (by omega) q3
      omega
    · have := q_le (by omega) (by omega) q3
      omega
  rcases h0 with ⟨rfl, j, a1, a2, a3, a4⟩ | ⟨rfl, a1⟩ | ⟨rfl, a1, a2, j, a3, a4⟩
  · obtain ⟨b1, b2, b3⟩ := hr.ro j a1
    have hst := (ro_of hr.ro hy b2).2.2.1
    rw [rr_fo hr j a1] at a3
    subst a3
    rcases h1 with ⟨c1, rfl⟩ | ⟨q, c1, c2, c3, c4⟩
    · exact absurd c1 (out _ b1 hst)
    · have hq := nI_inj (by omega) (by omega) c1
      subst hq
      rcases c4 with ⟨c4, rfl⟩ | ⟨c4, c5, rfl⟩
      · exact absurd c4 b2
      · exact ⟨0, by omega, rfl, rfl, fun _ => ⟨j, a1, a4, c5⟩⟩
  · rcases h1 with ⟨c1, rfl⟩ | ⟨q, rfl, c2, c3, c4⟩
    · exact ⟨1, by omega, rfl, rfl, fun h => by omega⟩
    · exact absurd a1 (out q c3 c2)
  · rcases h1 with ⟨c1, rfl⟩ | ⟨q, rfl, c2, c3, c4⟩
    · rcases c1 with c1 | c1
      · exact absurd c1 a1
      · exact absurd a2 (Int32.not_lt.mpr c1)
    · rcases c4 with ⟨c4, rfl⟩ | ⟨c4, c5, rfl⟩
      · exact ⟨2, by omega, rfl, rfl, fun h => by omega⟩
      · obtain ⟨d1, d2, -, -⟩ := ro_of hr.ro hy c4
        have hj := ix_rankN hr.ro hy (by omega) (rr_fo hr) (by omega) a3
        rw [← hj] at d1 d2
        rcases a4 with a4 | ⟨a4, a5⟩
        · omega
        · exact absurd (by rw [rr_fo hr j d1, d2]) a5
theorem value_eq (hr : Rr n en fo fk fv fr fc yk yv yr yt yl O K) {j : Nat} (hj : j < n) {r0 r1 : Int32} (h0 : r0 = fv j) (h1 : (yr (O j) = 0 ∧ r1 = yv (O j)) ∨ (¬ yr (O j) = 0 ∧ r1 = nI 0)) : r0 = r1 := by
  obtain ⟨-, c1, c2, c3, c4, c5, c6, c7, c8, -⟩ := hr j hj
  subst h0
  rcases h1 with ⟨h1, rfl⟩ | ⟨h1, rfl⟩
  · exact c5
  · rcases c8 with c8 | c8
    · rw [← c6, c8] at h1
      exact absurd rfl h1
    · exact c8.2
theorem key_eq (hr : Rr n en fo fk fv fr fc yk yv yr yt yl O K) {j : Nat} (hj : j < n) {r0 r1 : Int32} (h0 : (¬ fr j = 0 ∧ r0 = fk j + nI 16) ∨ (fr j = 0 ∧ r0 = fk j)) (h1 : (yr (O j) = 0 ∧ r1 = yk (O j) + nI 0) ∨ (¬ yr (O j) = 0 ∧ r1 = yk (O j) + nI 16)) : r0 = r1 := by
  obtain ⟨-, c1, c2, c3, c4, c5, c6, c7, c8, -⟩ := hr j hj
  rw [← c6, c4, ← c2] at h1
  rcases h0 with ⟨a1, rfl⟩ | ⟨a1, rfl⟩ <;> rcases h1 with ⟨b1, rfl⟩ | ⟨b1, rfl⟩
  · exact absurd b1 a1
  · rfl
  · rw [c2, nI_add]; rfl
  · exact absurd a1 b1
end PD
