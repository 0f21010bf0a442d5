section ZCe
noncomputable def zw_setMove (M : zCt) (a b e c d k q : Int) : zCt := (zset (zset (za M.1 0 17 q) 28 (zlin3 (a % q) (b % q) (e % q))) 29 (zlin3 (c % q) (d % q) (k % q)), M.2)
theorem zr_setMove {cI cP cS cZ cM : ClassId} {o : Nat} {M : zCt} {f g : Nat → va_E} {a b e c d k q : Int} (hP : zCP cI cP cS cZ cM o M f) (hg : g = va_up (va_up (va_up f (o + 634) (.inr (0, [.ref (o + 634 + 1), .ref (o + 634 + 3), .ref (o + 634 + 4), .ref (o + 634 + 5), .ref (o + 634 + 6), .ref (o + 634 + 8), .ref (o + 634 + 10), .ref (o + 634 + 12), .ref (o + 634 + 13), .int (zI q)]))) (o + 634 + 9) (zA cI 25 (zlin3 (a % q) (b % q) (e % q)))) (o + 634 + 11) (zA cI 25 (zlin3 (c % q) (d % q) (k % q)))) : zCP cI cP cS cZ cM o (zw_setMove M a b e c d k q) g := by
  have hs : ∀ q, q ≠ o + 634 ∧ q ≠ o + 634 + 9 ∧ q ≠ o + 634 + 11 → g q = f q := fun q hq => by rw [hg, va_up_ne _ _ hq.2.2, va_up_ne _ _ hq.2.1, va_up_ne _ _ hq.1]
  obtain ⟨sc, x1, y1, z1, x2, y2, z2, PX, PY, RS, hM⟩ := hP.c11
  obtain ⟨m0, m1, m2, m3, m4, m5, m6, m7, m8, m9, m10, m11, m12⟩ := hM
  exact ⟨(show zX0 cI cP cS cZ cM o (zw_setMove M a b e c d k q) g from zX0.same hP.c0 (fun q h1 h2 => hs q (by omega))),
    (show zX1 cI cP cS cZ cM o (zw_setMove M a b e c d k q) g from zX1.same hP.c1 (fun q h1 h2 => hs q (by omega))),
    (show zX2 cI cP cS cZ cM o (zw_setMove M a b e c d k q) g from zX2.same hP.c2 (fun q h1 h2 => hs q (by omega))),
    (show zX3 cI cP cS cZ cM o (zw_setMove M a b e c d k q) g from zX3.same hP.c3 (fun q h1 h2 => hs q (by omega))),
    (show zX4 cI cP cS cZ cM o (zw_setMove M a b e c d k q) g from zX4.same hP.c4 (fun q h1 h2 => hs q (by omega))),
    (show zX5 cI cP cS cZ cM o (zw_setMove M a b e c d k q) g from zX5.same hP.c5 (fun q h1 h2 => hs q (by omega))),
    (show zX6 cI cP cS cZ cM o (zw_setMove M a b e c d k q) g from zX6.same hP.c6 (fun q h1 h2 => hs q (by omega))),
    (show zX7 cI cP cS cZ cM o (zw_setMove M a b e c d k q) g from zX7.same hP.c7 (fun q h1 h2 => hs q (by omega))),
    (show zX8 cI cP cS cZ cM o (zw_setMove M a b e c d k q) g from zX8.same hP.c8 (fun q h1 h2 => hs q (by omega))),
    (show zX9 cI cP cS cZ cM o (zw_setMove M a b e c d k q) g from zX9.same hP.c9 (fun q h1 h2 => hs q (by omega))),
    (show zX10 cI cP cS cZ cM o (zw_setMove M a b e c d k q) g from zX10.same hP.c10 (fun q h1 h2 => hs q (by omega))),
    (show zX11 cI cP cS cZ cM o (zw_setMove M a b e c d k q) g from ⟨sc, x1, y1, z1, x2, y2, z2, PX, PY, RS, by rw [hg]; exact (va_up_ne _ _ (by omega)).trans ((va_up_ne _ _ (by omega)).trans (va_up_self _ _ _)), m1.same (hs _ (by omega)) (hs _ (by omega)), m2.same (hs _ (by omega)) (hs _ (by omega)), ⟨(hs _ (by omega)).trans m3.1, by rw [hg]; exact (va_up_ne _ _ (by omega)).trans (va_up_self _ _ _)⟩, ⟨(hs _ (by omega)).trans m4.1, by rw [hg]; exact va_up_self _ _ _⟩, (hs _ (by omega)).trans m5, (hs _ (by omega)).trans m6, (hs _ (by omega)).trans m7, (hs _ (by omega)).trans m8, (hs _ (by omega)).trans m9, fun k hk => (m10 k hk).same (hs _ (by omega)) (hs _ (by omega)), fun k hk => (m11 k hk).same (hs _ (by omega)) (hs _ (by omega)), fun k hk => (m12 k hk).same (hs _ (by omega)) (hs _ (by omega))⟩),
    (show zX12 cI cP cS cZ cM o (zw_setMove M a b e c d k q) g from zX12.same hP.c12 (fun q h1 h2 => hs q (by omega)))⟩
noncomputable def zw_made (M : zCt) (md : Nat → Int) (q : Int) : zCt := (zset (za M.1 0 17 q) 27 md, M.2)
theorem zr_made {cI cP cS cZ cM : ClassId} {o : Nat} {M : zCt} {f g : Nat → va_E} {md : Nat → Int} {q : Int} (hP : zCP cI cP cS cZ cM o M f) (hg : g = va_up (va_up f (o + 634) (.inr (0, [.ref (o + 634 + 1), .ref (o + 634 + 3), .ref (o + 634 + 4), .ref (o + 634 + 5), .ref (o + 634 + 6), .ref (o + 634 + 8), .ref (o + 634 + 10), .ref (o + 634 + 12), .ref (o + 634 + 13), .int (zI q)]))) (o + 634 + 2) (zA cI 25 md)) : zCP cI cP cS cZ cM o (zw_made M md q) g := by
  have hs : ∀ q, q ≠ o + 634 ∧ q ≠ o + 634 + 2 → g q = f q := fun q hq => by rw [hg, va_up_ne _ _ hq.2, va_up_ne _ _ hq.1]
  obtain ⟨sc, x1, y1, z1, x2, y2, z2, PX, PY, RS, hM⟩ := hP.c11
  obtain ⟨m0, m1, m2, m3, m4, m5, m6, m7, m8, m9, m10, m11, m12⟩ := hM
  exact ⟨(show zX0 cI cP cS cZ cM o (zw_made M md q) g from zX0.same hP.c0 (fun q h1 h2 => hs q (by omega))),
    (show zX1 cI cP cS cZ cM o (zw_made M md q) g from zX1.same hP.c1 (fun q h1 h2 => hs q (by omega))),
    (show zX2 cI cP cS cZ cM o (zw_made M md q) g from zX2.same hP.c2 (fun q h1 h2 => hs q (by omega))),
    (show zX3 cI cP cS cZ cM o (zw_made M md q) g from zX3.same hP.c3 (fun q h1 h2 => hs q (by omega))),
    (show zX4 cI cP cS cZ cM o (zw_made M md q) g from zX4.same hP.c4 (fun q h1 h2 => hs q (by omega))),
    (show zX5 cI cP cS cZ cM o (zw_made M md q) g from zX5.same hP.c5 (fun q h1 h2 => hs q (by omega))),
    (show zX6 cI cP cS cZ cM o (zw_made M md q) g from zX6.same hP.c6 (fun q h1 h2 => hs q (by omega))),
    (show zX7 cI cP cS cZ cM o (zw_made M md q) g from zX7.same hP.c7 (fun q h1 h2 => hs q (by omega))),
    (show zX8 cI cP cS cZ cM o (zw_made M md q) g from zX8.same hP.c8 (fun q h1 h2 => hs q (by omega))),
    (show zX9 cI cP cS cZ cM o (zw_made M md q) g from zX9.same hP.c9 (fun q h1 h2 => hs q (by omega))),
    (show zX10 cI cP cS cZ cM o (zw_made M md q) g from zX10.same hP.c10 (fun q h1 h2 => hs q (by omega))),
    (show zX11 cI cP cS cZ cM o (zw_made M md q) g from ⟨sc, x1, y1, z1, x2, y2, z2, PX, PY, RS, by rw [hg]; exact (va_up_ne _ _ (by omega)).trans (va_up_self _ _ _), ⟨(hs _ (by omega)).trans m1.1, by rw [hg]; exact va_up_self _ _ _⟩, m2.same (hs _ (by omega)) (hs _ (by omega)), m3.same (hs _ (by omega)) (hs _ (by omega)), m4.same (hs _ (by omega)) (hs _ (by omega)), (hs _ (by omega)).trans m5, (hs _ (by omega)).trans m6, (hs _ (by omega)).trans m7, (hs _ (by omega)).trans m8, (hs _ (by omega)).trans m9, fun k hk => (m10 k hk).same (hs _ (by omega)) (hs _ (by omega)), fun k hk => (m11 k hk).same (hs _ (by omega)) (hs _ (by omega)), fun k hk => (m12 k hk).same (hs _ (by omega)) (hs _ (by omega))⟩),
    (show zX12 cI cP cS cZ cM o (zw_made M md q) g from zX12.same hP.c12 (fun q h1 h2 => hs q (by omega)))⟩
noncomputable def zw_mset (M : zCt) (md : Nat → Int) : zCt := (zset M.1 27 md, M.2)
theorem zr_mset {cI cP cS cZ cM : ClassId} {o : Nat} {M : zCt} {f g : Nat → va_E} {md : Nat → Int} (hP : zCP cI cP cS cZ cM o M f) (hg : g = va_up f (o + 634 + 2) (zA cI 25 md)) : zCP cI cP cS cZ cM o (zw_mset M md) g := by
  have hs : ∀ q, q ≠ o + 634 + 2 → g q = f q := fun q hq => by rw [hg, va_up_ne _ _ hq]
  obtain ⟨sc, x1, y1, z1, x2, y2, z2, PX, PY, RS, hM⟩ := hP.c11
  obtain ⟨m0, m1, m2, m3, m4, m5, m6, m7, m8, m9, m10, m11, m12⟩ := hM
  exact ⟨(show zX0 cI cP cS cZ cM o (zw_mset M md) g from zX0.same hP.c0 (fun q h1 h2 => hs q (by omega))),
    (show zX1 cI cP cS cZ cM o (zw_mset M md) g from zX1.same hP.c1 (fun q h1 h2 => hs q (by omega))),
    (show zX2 cI cP cS cZ cM o (zw_mset M md) g from zX2.same hP.c2 (fun q h1 h2 => hs q (by omega))),
    (show zX3 cI cP cS cZ cM o (zw_mset M md) g from zX3.same hP.c3 (fun q h1 h2 => hs q (by omega))),
    (show zX4 cI cP cS cZ cM o (zw_mset M md) g from zX4.same hP.c4 (fun q h1 h2 => hs q (by omega))),
    (show zX5 cI cP cS cZ cM o (zw_mset M md) g from zX5.same hP.c5 (fun q h1 h2 => hs q (by omega))),
    (show zX6 cI cP cS cZ cM o (zw_mset M md) g from zX6.same hP.c6 (fun q h1 h2 => hs q (by omega))),
    (show zX7 cI cP cS cZ cM o (zw_mset M md) g from zX7.same hP.c7 (fun q h1 h2 => hs q (by omega))),
    (show zX8 cI cP cS cZ cM o (zw_mset M md) g from zX8.same hP.c8 (fun q h1 h2 => hs q (by omega))),
    (show zX9 cI cP cS cZ cM o (zw_mset M md) g from zX9.same hP.c9 (fun q h1 h2 => hs q (by omega))),
    (show zX10 cI cP cS cZ cM o (zw_mset M md) g from zX10.same hP.c10 (fun q h1 h2 => hs q (by omega))),
    (show zX11 cI cP cS cZ cM o (zw_mset M md) g from ⟨sc, x1, y1, z1, x2, y2, z2, PX, PY, RS, (hs _ (by omega)).trans m0, ⟨(hs _ (by omega)).trans m1.1, by rw [hg]; exact va_up_self _ _ _⟩, m2.same (hs _ (by omega)) (hs _ (by omega)), m3.same (hs _ (by omega)) (hs _ (by omega)), m4.same (hs _ (by omega)) (hs _ (by omega)), (hs _ (by omega)).trans m5, (hs _ (by omega)).trans m6, (hs _ (by omega)).trans m7, (hs _ (by omega)).trans m8, (hs _ (by omega)).trans m9, fun k hk => (m10 k hk).same (hs _ (by omega)) (hs _ (by omega)), fun k hk => (m11 k hk).same (hs _ (by omega)) (hs _ (by omega)), fun k hk => (m12 k hk).same (hs _ (by omega)) (hs _ (by omega))⟩),
    (show zX12 cI cP cS cZ cM o (zw_mset M md) g from zX12.same hP.c12 (fun q h1 h2 => hs q (by omega)))⟩
noncomputable def zthP (a b q : Int) (d : Nat → Int) : Nat → Int := @ite _ (a ≠ b ∧ zpt a q ∧ zpt b q) (Classical.propDecidable _) (zml (zlt a b q).1 (zlt a b q).2.1 (zlt a b q).2.2 q) d
noncomputable def zthZ (a b q : Int) : Int := @ite _ (a ≠ b ∧ zpt a q ∧ zpt b q) (Classical.propDecidable _) (zmlb (zlt a b q).1 (zlt a b q).2.1 (zlt a b q).2.2 q) 0
theorem zr_thru {cI cP cS cZ cM : ClassId} {o : Nat} {M : zCt} {f g : Nat → va_E} {a b q : Int} {sc : Nat → Int} {PX PY RS : Nat → Nat → Int} (hP : zCP cI cP cS cZ cM o M f) (hs0 : zFr f g (o + 634) (o + 634 + 46)) {u1 v1 w1 u2 v2 w2 r : Int} (ha : ¬ (a ≠ b ∧ zpt a q ∧ zpt b q) → r = 0 ∧ zMk cI cP g (o + 634) q (M.1 27) sc (M.1 28) (M.1 29) u1 v1 w1 u2 v2 w2 PX PY RS) (hb : (a ≠ b ∧ zpt a q ∧ zpt b q) → r = zmlb (zlt a b q).1 (zlt a b q).2.1 (zlt a b q).2.2 q ∧ zMk cI cP g (o + 634) q (zml (zlt a b q).1 (zlt a b q).2.1 (zlt a b q).2.2 q) sc (M.1 28) (M.1 29) u1 v1 w1 u2 v2 w2 PX PY RS) : zCP cI cP cS cZ cM o (zw_made M (zthP a b q (M.1 27)) q) g := by
  have hs : ∀ q, ¬ (o + 634 ≤ q ∧ q < o + 680) → g q = f q := fun q hq => hs0 q (by omega)
  exact ⟨(show zX0 cI cP cS cZ cM o (zw_made M (zthP a b q (M.1 27)) q) g from zX0.same hP.c0 (fun q h1 h2 => hs q (by omega))),
    (show zX1 cI cP cS cZ cM o (zw_made M (zthP a b q (M.1 27)) q) g from zX1.same hP.c1 (fun q h1 h2 => hs q (by omega))),
    (show zX2 cI cP cS cZ cM o (zw_made M (zthP a b q (M.1 27)) q) g from zX2.same hP.c2 (fun q h1 h2 => hs q (by omega))),
    (show zX3 cI cP cS cZ cM o (zw_made M (zthP a b q (M.1 27)) q) g from zX3.same hP.c3 (fun q h1 h2 => hs q (by omega))),
    (show zX4 cI cP cS cZ cM o (zw_made M (zthP a b q (M.1 27)) q) g from zX4.same hP.c4 (fun q h1 h2 => hs q (by omega))),
    (show zX5 cI cP cS cZ cM o (zw_made M (zthP a b q (M.1 27)) q) g from zX5.same hP.c5 (fun q h1 h2 => hs q (by omega))),
    (show zX6 cI cP cS cZ cM o (zw_made M (zthP a b q (M.1 27)) q) g from zX6.same hP.c6 (fun q h1 h2 => hs q (by omega))),
    (show zX7 cI cP cS cZ cM o (zw_made M (zthP a b q (M.1 27)) q) g from zX7.same hP.c7 (fun q h1 h2 => hs q (by omega))),
    (show zX8 cI cP cS cZ cM o (zw_made M (zthP a b q (M.1 27)) q) g from zX8.same hP.c8 (fun q h1 h2 => hs q (by omega))),
    (show zX9 cI cP cS cZ cM o (zw_made M (zthP a b q (M.1 27)) q) g from zX9.same hP.c9 (fun q h1 h2 => hs q (by omega))),
    (show zX10 cI cP cS cZ cM o (zw_made M (zthP a b q (M.1 27)) q) g from zX10.same hP.c10 (fun q h1 h2 => hs q (by omega))),
    (show zX11 cI cP cS cZ cM o (zw_made M (zthP a b q (M.1 27)) q) g from ⟨sc, u1, v1, w1, u2, v2, w2, PX, PY, RS, by
    show zMk cI cP g (o + 634) q (zthP a b q (M.1 27)) sc (M.1 28) (M.1 29) u1 v1 w1 u2 v2 w2 PX PY RS
    unfold zthP
    by_cases h : a ≠ b ∧ zpt a q ∧ zpt b q
    · rw [if_pos h]; exact (hb h).2
    · rw [if_neg h]; exact (ha h).2⟩),
    (show zX12 cI cP cS cZ cM o (zw_made M (zthP a b q (M.1 27)) q) g from zX12.same hP.c12 (fun q h1 h2 => hs q (by omega)))⟩
noncomputable def zw_moveAll (M : zCt) : zCt := (M.1, (fun k => if (k : Int) < M.1 0 4 then zmv (M.2.1 k) (zpws (M.1 28) (M.1 0 17)) (zpws (M.1 29) (M.1 0 17)) (M.1 0 17) else M.2.1 k), M.2.2)
theorem zr_moveAll {cI cP cS cZ cM : ClassId} {o : Nat} {M : zCt} {f g : Nat → va_E}  (hP : zCP cI cP cS cZ cM o M f) (hs : ∀ x, ¬ (o + 634 ≤ x ∧ x < o + 634 + 46) ∧ ¬ (o + 289 ≤ x ∧ x < o + 289 + 15) → g x = f x) {x1 y1 z1 x2 y2 z2 : Int} (hM : ∃ (s2 : Nat → Int) (R2 : Nat → Nat → Int), zMk cI cP g (o + 634) (M.1 0 17) (M.1 27) s2 (M.1 28) (M.1 29) x1 y1 z1 x2 y2 z2 (zpws (M.1 28) (M.1 0 17)) (zpws (M.1 29) (M.1 0 17)) R2) (hS : ∃ C2 : Nat → Nat → Int, zShelf cI cP g (o + 289) (M.1 0 3) (M.1 0 4) C2 (M.1 3) ∧ (∀ k : Nat, (k : Int) < M.1 0 4 → C2 k = zmv (M.2.1 k) (zpws (M.1 28) (M.1 0 17)) (zpws (M.1 29) (M.1 0 17)) (M.1 0 17)) ∧ ∀ k : Nat, M.1 0 4 ≤ (k : Int) → C2 k = M.2.1 k) : zCP cI cP cS cZ cM o (zw_moveAll M) g := by
  obtain ⟨s2, R2, hM⟩ := hM
  obtain ⟨C2, c1, c2, c3⟩ := hS
  exact ⟨(show zX0 cI cP cS cZ cM o (zw_moveAll M) g from zX0.same hP.c0 (fun q h1 h2 => hs q (by omega))),
    (show zX1 cI cP cS cZ cM o (zw_moveAll M) g from zX1.same hP.c1 (fun q h1 h2 => hs q (by omega))),
    (show zX2 cI cP cS cZ cM o (zw_moveAll M) g from zX2.same hP.c2 (fun q h1 h2 => hs q (by omega))),
    (show zX3 cI cP cS cZ cM o (zw_moveAll M) g from by
    rw [show C2 = (fun k : Nat => if (k : Int) < M.1 0 4 then zmv (M.2.1 k) (zpws (M.1 28) (M.1 0 17)) (zpws (M.1 29) (M.1 0 17)) (M.1 0 17) else M.2.1 k) from funext (fun k => by
      by_cases h : (k : Int) < M.1 0 4
      · rw [if_pos h]; exact c2 k h
      · rw [if_neg h]; exact c3 k (by omega))] at c1
    exact c1),
    (show zX4 cI cP cS cZ cM o (zw_moveAll M) g from zX4.same hP.c4 (fun q h1 h2 => hs q (by omega))),
    (show zX5 cI cP cS cZ cM o (zw_moveAll M) g from zX5.same hP.c5 (fun q h1 h2 => hs q (by omega))),
    (show zX6 cI cP cS cZ cM o (zw_moveAll M) g from zX6.same hP.c6 (fun q h1 h2 => hs q (by omega))),
    (show zX7 cI cP cS cZ cM o (zw_moveAll M) g from zX7.same hP.c7 (fun q h1 h2 => hs q (by omega))),
    (show zX8 cI cP cS cZ cM o (zw_moveAll M) g from zX8.same hP.c8 (fun q h1 h2 => hs q (by omega))),
    (show zX9 cI cP cS cZ cM o (zw_moveAll M) g from zX9.same hP.c9 (fun q h1 h2 => hs q (by omega))),
    (show zX10 cI cP cS cZ cM o (zw_moveAll M) g from zX10.same hP.c10 (fun q h1 h2 => hs q (by omega))),
    (show zX11 cI cP cS cZ cM o (zw_moveAll M) g from ⟨s2, _, _, _, _, _, _, _, _, R2, hM⟩),
    (show zX12 cI cP cS cZ cM o (zw_moveAll M) g from zX12.same hP.c12 (fun q h1 h2 => hs q (by omega)))⟩
noncomputable def zw_keep (M : zCt) : zCt := (zset (zset (za (za M.1 0 5 (min (M.1 0 5 + 1) 20)) 0 6 (if M.1 0 6 + 1 < 20 then M.1 0 6 + 1 else 0)) 40 (zset (M.1 40) (M.1 0 6).toNat (M.1 0 3))) 41 (zset (M.1 41) (M.1 0 6).toNat (M.1 0 4)), M.2.1, zset M.2.2.1 (M.1 0 6).toNat (M.1 3), zset M.2.2.2.1 (M.1 0 6).toNat M.2.1, M.2.2.2.2)
theorem zr_keep {cI cP cS cZ cM : ClassId} {o : Nat} {M : zCt} {f g : Nat → va_E}  (hP : zCP cI cP cS cZ cM o M f) (hs0 : zFr f g (o + 304) (o + 304 + 302)) (hx : zPast cI cP cS g (o + 304) (min (M.1 0 5 + 1) 20) (if M.1 0 6 + 1 < 20 then M.1 0 6 + 1 else 0) (zset (M.1 40) (M.1 0 6).toNat (M.1 0 3)) (zset (M.1 41) (M.1 0 6).toNat (M.1 0 4)) (zset M.2.2.2.1 (M.1 0 6).toNat M.2.1) (zset M.2.2.1 (M.1 0 6).toNat (M.1 3))) : zCP cI cP cS cZ cM o (zw_keep M) g := by
  have hs : ∀ q, ¬ (o + 304 ≤ q ∧ q < o + 606) → g q = f q := fun q hq => hs0 q (by omega)
  exact ⟨(show zX0 cI cP cS cZ cM o (zw_keep M) g from zX0.same hP.c0 (fun q h1 h2 => hs q (by omega))),
    (show zX1 cI cP cS cZ cM o (zw_keep M) g from zX1.same hP.c1 (fun q h1 h2 => hs q (by omega))),
    (show zX2 cI cP cS cZ cM o (zw_keep M) g from zX2.same hP.c2 (fun q h1 h2 => hs q (by omega))),
    (show zX3 cI cP cS cZ cM o (zw_keep M) g from zX3.same hP.c3 (fun q h1 h2 => hs q (by omega))),
    (show zX4 cI cP cS cZ cM o (zw_keep M) g from hx),
    (show zX5 cI cP cS cZ cM o (zw_keep M) g from zX5.same hP.c5 (fun q h1 h2 => hs q (by omega))),
    (show zX6 cI cP cS cZ cM o (zw_keep M) g from zX6.same hP.c6 (fun q h1 h2 => hs q (by omega))),
    (show zX7 cI cP cS cZ cM o (zw_keep M) g from zX7.same hP.c7 (fun q h1 h2 => hs q (by omega))),
    (show zX8 cI cP cS cZ cM o (zw_keep M) g from zX8.same hP.c8 (fun q h1 h2 => hs q (by omega))),
    (show zX9 cI cP cS cZ cM o (zw_keep M) g from zX9.same hP.c9 (fun q h1 h2 => hs q (by omega))),
    (show zX10 cI cP cS cZ cM o (zw_keep M) g from zX10.same hP.c10 (fun q h1 h2 => hs q (by omega))),
    (show zX11 cI cP cS cZ cM o (zw_keep M) g from zX11.same hP.c11 (fun q h1 h2 => hs q (by omega))),
    (show zX12 cI cP cS cZ cM o (zw_keep M) g from zX12.same hP.c12 (fun q h1 h2 => hs q (by omega)))⟩
noncomputable def zw_back (M : zCt) : zCt := (zset (za (za (za (za M.1 0 5 (M.1 0 5 - 1)) 0 6 (if 0 < M.1 0 6 then M.1 0 6 - 1 else 19)) 0 3 (M.1 40 (if 0 < M.1 0 6 then M.1 0 6 - 1 else 19).toNat)) 0 4 (M.1 41 (if 0 < M.1 0 6 then M.1 0 6 - 1 else 19).toNat)) 3 (M.2.2.1 (if 0 < M.1 0 6 then M.1 0 6 - 1 else 19).toNat), M.2.2.2.1 (if 0 < M.1 0 6 then M.1 0 6 - 1 else 19).toNat, M.2.2)
theorem zr_back {cI cP cS cZ cM : ClassId} {o : Nat} {M : zCt} {f g : Nat → va_E}  (hP : zCP cI cP cS cZ cM o M f) (hs : ∀ q, q ≠ o + 304 → ¬ (o + 289 ≤ q ∧ q < o + 289 + 15) → g q = f q) (hx : zPast cI cP cS g (o + 304) (M.1 0 5 - 1) (if 0 < M.1 0 6 then M.1 0 6 - 1 else 19) (M.1 40) (M.1 41) M.2.2.2.1 M.2.2.1) (hy : zShelf cI cP g (o + 289) (M.1 40 (if 0 < M.1 0 6 then M.1 0 6 - 1 else 19).toNat) (M.1 41 (if 0 < M.1 0 6 then M.1 0 6 - 1 else 19).toNat) (M.2.2.2.1 (if 0 < M.1 0 6 then M.1 0 6 - 1 else 19).toNat) (M.2.2.1 (if 0 < M.1 0 6 then M.1 0 6 - 1 else 19).toNat)) : zCP cI cP cS cZ cM o (zw_back M) g := by
  have hs : ∀ q, q ≠ o + 304 ∧ ¬ (o + 289 ≤ q ∧ q < o + 289 + 15) → g q = f q := fun q hq => hs q hq.1 hq.2
  exact ⟨(show zX0 cI cP cS cZ cM o (zw_back M) g from zX0.same hP.c0 (fun q h1 h2 => hs q (by omega))),
    (show zX1 cI cP cS cZ cM o (zw_back M) g from zX1.same hP.c1 (fun q h1 h2 => hs q (by omega))),
    (show zX2 cI cP cS cZ cM o (zw_back M) g from zX2.same hP.c2 (fun q h1 h2 => hs q (by omega))),
    (show zX3 cI cP cS cZ cM o (zw_back M) g from hy),
    (show zX4 cI cP cS cZ cM o (zw_back M) g from hx),
    (show zX5 cI cP cS cZ cM o (zw_back M) g from zX5.same hP.c5 (fun q h1 h2 => hs q (by omega))),
    (show zX6 cI cP cS cZ cM o (zw_back M) g from zX6.same hP.c6 (fun q h1 h2 => hs q (by omega))),
    (show zX7 cI cP cS cZ cM o (zw_back M) g from zX7.same hP.c7 (fun q h1 h2 => hs q (by omega))),
    (show zX8 cI cP cS cZ cM o (zw_back M) g from zX8.same hP.c8 (fun q h1 h2 => hs q (by omega))),
    (show zX9 cI cP cS cZ cM o (zw_back M) g from zX9.same hP.c9 (fun q h1 h2 => hs q (by omega))),
    (show zX10 cI cP cS cZ cM o (zw_back M) g from zX10.same hP.c10 (fun q h1 h2 => hs q (by omega))),
    (show zX11 cI cP cS cZ cM o (zw_back M) g from zX11.same hP.c11 (fun q h1 h2 => hs q (by omega))),
    (show zX12 cI cP cS cZ cM o (zw_back M) g from zX12.same hP.c12 (fun q h1 h2 => hs q (by omega)))⟩
noncomputable def zw_forget (M : zCt) : zCt := (za M.1 0 5 0, M.2)
theorem zr_forget {cI cP cS cZ cM : ClassId} {o : Nat} {M : zCt} {f g : Nat → va_E}  (hP : zCP cI cP cS cZ cM o M f) (hs0 : zFr f g (o + 304) (o + 304 + 302)) (hx : zPast cI cP cS g (o + 304) 0 (M.1 0 6) (M.1 40) (M.1 41) M.2.2.2.1 M.2.2.1) : zCP cI cP cS cZ cM o (zw_forget M) g := by
  have hs : ∀ q, ¬ (o + 304 ≤ q ∧ q < o + 606) → g q = f q := fun q hq => hs0 q (by omega)
  exact ⟨(show zX0 cI cP cS cZ cM o (zw_forget M) g from zX0.same hP.c0 (fun q h1 h2 => hs q (by omega))),
    (show zX1 cI cP cS cZ cM o (zw_forget M) g from zX1.same hP.c1 (fun q h1 h2 => hs q (by omega))),
    (show zX2 cI cP cS cZ cM o (zw_forget M) g from zX2.same hP.c2 (fun q h1 h2 => hs q (by omega))),
    (show zX3 cI cP cS cZ cM o (zw_forget M) g from zX3.same hP.c3 (fun q h1 h2 => hs q (by omega))),
    (show zX4 cI cP cS cZ cM o (zw_forget M) g from hx),
    (show zX5 cI cP cS cZ cM o (zw_forget M) g from zX5.same hP.c5 (fun q h1 h2 => hs q (by omega))),
    (show zX6 cI cP cS cZ cM o (zw_forget M) g from zX6.same hP.c6 (fun q h1 h2 => hs q (by omega))),
    (show zX7 cI cP cS cZ cM o (zw_forget M) g from zX7.same hP.c7 (fun q h1 h2 => hs q (by omega))),
    (show zX8 cI cP cS cZ cM o (zw_forget M) g from zX8.same hP.c8 (fun q h1 h2 => hs q (by omega))),
    (show zX9 cI cP cS cZ cM o (zw_forget M) g from zX9.same hP.c9 (fun q h1 h2 => hs q (by omega))),
    (show zX10 cI cP cS cZ cM o (zw_forget M) g from zX10.same hP.c10 (fun q h1 h2 => hs q (by omega))),
    (show zX11 cI cP cS cZ cM o (zw_forget M) g from zX11.same hP.c11 (fun q h1 h2 => hs q (by omega))),
    (show zX12 cI cP cS cZ cM o (zw_forget M) g from zX12.same hP.c12 (fun q h1 h2 => hs q (by omega)))⟩
noncomputable def zw_take (M : zCt) : zCt := (zset (za (za M.1 0 3 (M.2.2.2.2 0 3)) 0 4 (M.2.2.2.2 0 4)) 3 (M.2.2.2.2 1), (fun k => M.2.2.2.2 (7 + k)), M.2.2)
theorem zr_take {cI cP cS cZ cM : ClassId} {o : Nat} {M : zCt} {f g : Nat → va_E}  (hP : zCP cI cP cS cZ cM o M f) (hs0 : zFr f g (o + 289) (o + 289 + 15)) (hx : zShelf cI cP g (o + 289) (M.2.2.2.2 0 3) (M.2.2.2.2 0 4) (fun k => M.2.2.2.2 (7 + k)) (M.2.2.2.2 1)) : zCP cI cP cS cZ cM o (zw_take M) g := by
  have hs : ∀ q, ¬ (o + 289 ≤ q ∧ q < o + 304) → g q = f q := fun q hq => hs0 q (by omega)
  exact ⟨(show zX0 cI cP cS cZ cM o (zw_take M) g from zX0.same hP.c0 (fun q h1 h2 => hs q (by omega))),
    (show zX1 cI cP cS cZ cM o (zw_take M) g from zX1.same hP.c1 (fun q h1 h2 => hs q (by omega))),
    (show zX2 cI cP cS cZ cM o (zw_take M) g from zX2.same hP.c2 (fun q h1 h2 => hs q (by omega))),
    (show zX3 cI cP cS cZ cM o (zw_take M) g from hx),
    (show zX4 cI cP cS cZ cM o (zw_take M) g from zX4.same hP.c4 (fun q h1 h2 => hs q (by omega))),
    (show zX5 cI cP cS cZ cM o (zw_take M) g from zX5.same hP.c5 (fun q h1 h2 => hs q (by omega))),
    (show zX6 cI cP cS cZ cM o (zw_take M) g from zX6.same hP.c6 (fun q h1 h2 => hs q (by omega))),
    (show zX7 cI cP cS cZ cM o (zw_take M) g from zX7.same hP.c7 (fun q h1 h2 => hs q (by omega))),
    (show zX8 cI cP cS cZ cM o (zw_take M) g from zX8.same hP.c8 (fun q h1 h2 => hs q (by omega))),
    (show zX9 cI cP cS cZ cM o (zw_take M) g from zX9.same hP.c9 (fun q h1 h2 => hs q (by omega))),
    (show zX10 cI cP cS cZ cM o (zw_take M) g from zX10.same hP.c10 (fun q h1 h2 => hs q (by omega))),
    (show zX11 cI cP cS cZ cM o (zw_take M) g from zX11.same hP.c11 (fun q h1 h2 => hs q (by omega))),
    (show zX12 cI cP cS cZ cM o (zw_take M) g from zX12.same hP.c12 (fun q h1 h2 => hs q (by omega)))⟩
noncomputable def zw_add (M : zCt) : zCt := (zset (za M.1 0 4 (M.1 0 4 + 1)) 3 (zclr (M.1 0 4) (M.1 3) 6), zset M.2.1 (M.1 0 4).toNat (M.1 27), M.2.2)
theorem zr_add {cI cP cS cZ cM : ClassId} {o : Nat} {M : zCt} {f g : Nat → va_E}  (hP : zCP cI cP cS cZ cM o M f) (hs0 : zFr f g (o + 289) (o + 289 + 15)) (hx : zShelf cI cP g (o + 289) (M.1 0 3) (M.1 0 4 + 1) (zset M.2.1 (M.1 0 4).toNat (M.1 27)) (zclr (M.1 0 4) (M.1 3) 6)) : zCP cI cP cS cZ cM o (zw_add M) g := by
  have hs : ∀ q, ¬ (o + 289 ≤ q ∧ q < o + 304) → g q = f q := fun q hq => hs0 q (by omega)
  exact ⟨(show zX0 cI cP cS cZ cM o (zw_add M) g from zX0.same hP.c0 (fun q h1 h2 => hs q (by omega))),
    (show zX1 cI cP cS cZ cM o (zw_add M) g from zX1.same hP.c1 (fun q h1 h2 => hs q (by omega))),
    (show zX2 cI cP cS cZ cM o (zw_add M) g from zX2.same hP.c2 (fun q h1 h2 => hs q (by omega))),
    (show zX3 cI cP cS cZ cM o (zw_add M) g from hx),
    (show zX4 cI cP cS cZ cM o (zw_add M) g from zX4.same hP.c4 (fun q h1 h2 => hs q (by omega))),
    (show zX5 cI cP cS cZ cM o (zw_add M) g from zX5.same hP.c5 (fun q h1 h2 => hs q (by omega))),
    (show zX6 cI cP cS cZ cM o (zw_add M) g from zX6.same hP.c6 (fun q h1 h2 => hs q (by omega))),
    (show zX7 cI cP cS cZ cM o (zw_add M) g from zX7.same hP.c7 (fun q h1 h2 => hs q (by omega))),
    (show zX8 cI cP cS cZ cM o (zw_add M) g from zX8.same hP.c8 (fun q h1 h2 => hs q (by omega))),
    (show zX9 cI cP cS cZ cM o (zw_add M) g from zX9.same hP.c9 (fun q h1 h2 => hs q (by omega))),
    (show zX10 cI cP cS cZ cM o (zw_add M) g from zX10.same hP.c10 (fun q h1 h2 => hs q (by omega))),
    (show zX11 cI cP cS cZ cM o (zw_add M) g from zX11.same hP.c11 (fun q h1 h2 => hs q (by omega))),
    (show zX12 cI cP cS cZ cM o (zw_add M) g from zX12.same hP.c12 (fun q h1 h2 => hs q (by omega)))⟩
noncomputable def zw_remove (M : zCt) (i : Int) : zCt := (zset (za M.1 0 4 (M.1 0 4 - 1)) 3 (zremL (M.1 3) i (M.1 0 4 - 1)), zremC M.2.1 i (M.1 0 4 - 1), M.2.2)
theorem zr_remove {cI cP cS cZ cM : ClassId} {o : Nat} {M : zCt} {f g : Nat → va_E} {i : Int} (hP : zCP cI cP cS cZ cM o M f) (hs0 : zFr f g (o + 289) (o + 289 + 15)) (hx : zShelf cI cP g (o + 289) (M.1 0 3) (M.1 0 4 - 1) (zremC M.2.1 i (M.1 0 4 - 1)) (zremL (M.1 3) i (M.1 0 4 - 1))) : zCP cI cP cS cZ cM o (zw_remove M i) g := by
  have hs : ∀ q, ¬ (o + 289 ≤ q ∧ q < o + 304) → g q = f q := fun q hq => hs0 q (by omega)
  exact ⟨(show zX0 cI cP cS cZ cM o (zw_remove M i) g from zX0.same hP.c0 (fun q h1 h2 => hs q (by omega))),
    (show zX1 cI cP cS cZ cM o (zw_remove M i) g from zX1.same hP.c1 (fun q h1 h2 => hs q (by omega))),
    (show zX2 cI cP cS cZ cM o (zw_remove M i) g from zX2.same hP.c2 (fun q h1 h2 => hs q (by omega))),
    (show zX3 cI cP cS cZ cM o (zw_remove M i) g from hx),
    (show zX4 cI cP cS cZ cM o (zw_remove M i) g from zX4.same hP.c4 (fun q h1 h2 => hs q (by omega))),
    (show zX5 cI cP cS cZ cM o (zw_remove M i) g from zX5.same hP.c5 (fun q h1 h2 => hs q (by omega))),
    (show zX6 cI cP cS cZ cM o (zw_remove M i) g from zX6.same hP.c6 (fun q h1 h2 => hs q (by omega))),
    (show zX7 cI cP cS cZ cM o (zw_remove M i) g from zX7.same hP.c7 (fun q h1 h2 => hs q (by omega))),
    (show zX8 cI cP cS cZ cM o (zw_remove M i) g from zX8.same hP.c8 (fun q h1 h2 => hs q (by omega))),
    (show zX9 cI cP cS cZ cM o (zw_remove M i) g from zX9.same hP.c9 (fun q h1 h2 => hs q (by omega))),
    (show zX10 cI cP cS cZ cM o (zw_remove M i) g from zX10.same hP.c10 (fun q h1 h2 => hs q (by omega))),
    (show zX11 cI cP cS cZ cM o (zw_remove M i) g from zX11.same hP.c11 (fun q h1 h2 => hs q (by omega))),
    (show zX12 cI cP cS cZ cM o (zw_remove M i) g from zX12.same hP.c12 (fun q h1 h2 => hs q (by omega)))⟩
noncomputable def zw_append (M : zCt) (x : Int) : zCt := (zset (za M.1 0 2 (zapp x (M.1 0 2, M.1 2)).1) 2 (zapp x (M.1 0 2, M.1 2)).2, M.2)
theorem zr_append {cI cP cS cZ cM : ClassId} {o : Nat} {M : zCt} {f g : Nat → va_E} {x : Int} (hP : zCP cI cP cS cZ cM o M f) (hg : g = va_up (va_up f (o + 98 + 16) (zA cI 1000 (zapp x (M.1 0 2, M.1 2)).2)) (o + 98) (.inr (3, [.int (zI (zapp x (M.1 0 2, M.1 2)).1), .int (zI (M.2.2.2.2 0 1)), .int (zI (M.2.2.2.2 0 2)), .ref (o + 98 + 1), .ref (o + 98 + 16), .ref (o + 98 + 17), .ref (o + 98 + 18), .ref (o + 98 + 19), .ref (o + 98 + 20), .ref (o + 98 + 21), .ref (o + 98 + 23), .ref (o + 98 + 25), .int (zI (M.2.2.2.2 0 0))]))) : zCP cI cP cS cZ cM o (zw_append M x) g := by
  have hs : ∀ q, q ≠ o + 98 ∧ q ≠ o + 98 + 16 → g q = f q := fun q hq => by rw [hg, va_up_ne _ _ hq.1, va_up_ne _ _ hq.2]
  exact ⟨(show zX0 cI cP cS cZ cM o (zw_append M x) g from zX0.same hP.c0 (fun q h1 h2 => hs q (by omega))),
    (show zX1 cI cP cS cZ cM o (zw_append M x) g from zX1.same hP.c1 (fun q h1 h2 => hs q (by omega))),
    (show zX2 cI cP cS cZ cM o (zw_append M x) g from by rw [hg]; exact hP.c2.tape),
    (show zX3 cI cP cS cZ cM o (zw_append M x) g from zX3.same hP.c3 (fun q h1 h2 => hs q (by omega))),
    (show zX4 cI cP cS cZ cM o (zw_append M x) g from zX4.same hP.c4 (fun q h1 h2 => hs q (by omega))),
    (show zX5 cI cP cS cZ cM o (zw_append M x) g from zX5.same hP.c5 (fun q h1 h2 => hs q (by omega))),
    (show zX6 cI cP cS cZ cM o (zw_append M x) g from zX6.same hP.c6 (fun q h1 h2 => hs q (by omega))),
    (show zX7 cI cP cS cZ cM o (zw_append M x) g from zX7.same hP.c7 (fun q h1 h2 => hs q (by omega))),
    (show zX8 cI cP cS cZ cM o (zw_append M x) g from zX8.same hP.c8 (fun q h1 h2 => hs q (by omega))),
    (show zX9 cI cP cS cZ cM o (zw_append M x) g from zX9.same hP.c9 (fun q h1 h2 => hs q (by omega))),
    (show zX10 cI cP cS cZ cM o (zw_append M x) g from zX10.same hP.c10 (fun q h1 h2 => hs q (by omega))),
    (show zX11 cI cP cS cZ cM o (zw_append M x) g from zX11.same hP.c11 (fun q h1 h2 => hs q (by omega))),
    (show zX12 cI cP cS cZ cM o (zw_append M x) g from zX12.same hP.c12 (fun q h1 h2 => hs q (by omega)))⟩
noncomputable def zw_len (M : zCt) (n : Int) : zCt := (za M.1 0 2 n, M.2)
theorem zRdr.len {cI cP cZ : ClassId} {f : Nat → va_E} {r : Nat} {n n2 : Int} {T : Nat → Int} {S : Nat → Nat → Int} (h : zRdr cI cP cZ f r n T S) : zRdr cI cP cZ (va_up f r (.inr (3, [.int (zI n2), .int (zI (S 0 1)), .int (zI (S 0 2)), .ref (r + 1), .ref (r + 16), .ref (r + 17), .ref (r + 18), .ref (r + 19), .ref (r + 20), .ref (r + 21), .ref (r + 23), .ref (r + 25), .int (zI (S 0 0))]))) r n2 T S := fun j hj => by
  by_cases e0 : j = 0
  · subst e0
    exact (va_up_self _ _ _)
  · refine (va_up_ne _ _ (by omega)).trans ((h j hj).trans ?_)
    unfold zrp
    rw [if_neg e0, if_neg e0]
theorem zRdr.ob {cI cP cZ : ClassId} {f : Nat → va_E} {r : Nat} {n : Int} {T : Nat → Int} {S : Nat → Nat → Int} (h : zRdr cI cP cZ f r n T S) : f r = .inr (3, [.int (zI n), .int (zI (S 0 1)), .int (zI (S 0 2)), .ref (r + 1), .ref (r + 16), .ref (r + 17), .ref (r + 18), .ref (r + 19), .ref (r + 20), .ref (r + 21), .ref (r + 23), .ref (r + 25), .int (zI (S 0 0))]) := h 0 (by decide)
theorem zRdr.tp {cI cP cZ : ClassId} {f : Nat → va_E} {r : Nat} {n : Int} {T : Nat → Int} {S : Nat → Nat → Int} (h : zRdr cI cP cZ f r n T S) : f (r + 16) = zA cI 1000 T := h 16 (by decide)
theorem zRdr.sh {cI cP cZ : ClassId} {f : Nat → va_E} {r : Nat} {n : Int} {T : Nat → Int} {S : Nat → Nat → Int} (h : zRdr cI cP cZ f r n T S) : zShelf cI cP f (r + 1) (S 0 3) (S 0 4) (fun k => S (7 + k)) (S 1) := by
  have q := zRO_shelf (cI := cI) (cP := cP) (cZ := cZ) (r := r) (n := n) (T := T) (S := S) (f := f)
  rw [h.ro] at q
  exact q
theorem zr_len {cI cP cS cZ cM : ClassId} {o : Nat} {M : zCt} {f g : Nat → va_E} {n : Int} (hP : zCP cI cP cS cZ cM o M f) (hg : g = va_up f (o + 98) (.inr (3, [.int (zI n), .int (zI (M.2.2.2.2 0 1)), .int (zI (M.2.2.2.2 0 2)), .ref (o + 98 + 1), .ref (o + 98 + 16), .ref (o + 98 + 17), .ref (o + 98 + 18), .ref (o + 98 + 19), .ref (o + 98 + 20), .ref (o + 98 + 21), .ref (o + 98 + 23), .ref (o + 98 + 25), .int (zI (M.2.2.2.2 0 0))]))) : zCP cI cP cS cZ cM o (zw_len M n) g := by
  have hs : ∀ q, q ≠ o + 98 → g q = f q := fun q hq => by rw [hg, va_up_ne _ _ hq]
  exact ⟨(show zX0 cI cP cS cZ cM o (zw_len M n) g from zX0.same hP.c0 (fun q h1 h2 => hs q (by omega))),
    (show zX1 cI cP cS cZ cM o (zw_len M n) g from zX1.same hP.c1 (fun q h1 h2 => hs q (by omega))),
    (show zX2 cI cP cS cZ cM o (zw_len M n) g from by rw [hg]; exact hP.c2.len),
    (show zX3 cI cP cS cZ cM o (zw_len M n) g from zX3.same hP.c3 (fun q h1 h2 => hs q (by omega))),
    (show zX4 cI cP cS cZ cM o (zw_len M n) g from zX4.same hP.c4 (fun q h1 h2 => hs q (by omega))),
    (show zX5 cI cP cS cZ cM o (zw_len M n) g from zX5.same hP.c5 (fun q h1 h2 => hs q (by omega))),
    (show zX6 cI cP cS cZ cM o (zw_len M n) g from zX6.same hP.c6 (fun q h1 h2 => hs q (by omega))),
    (show zX7 cI cP cS cZ cM o (zw_len M n) g from zX7.same hP.c7 (fun q h1 h2 => hs q (by omega))),
    (show zX8 cI cP cS cZ cM o (zw_len M n) g from zX8.same hP.c8 (fun q h1 h2 => hs q (by omega))),
    (show zX9 cI cP cS cZ cM o (zw_len M n) g from zX9.same hP.c9 (fun q h1 h2 => hs q (by omega))),
    (show zX10 cI cP cS cZ cM o (zw_len M n) g from zX10.same hP.c10 (fun q h1 h2 => hs q (by omega))),
    (show zX11 cI cP cS cZ cM o (zw_len M n) g from zX11.same hP.c11 (fun q h1 h2 => hs q (by omega))),
    (show zX12 cI cP cS cZ cM o (zw_len M n) g from zX12.same hP.c12 (fun q h1 h2 => hs q (by omega)))⟩
noncomputable def zw_read (M : zCt) : zCt := (M.1, M.2.1, M.2.2.1, M.2.2.2.1, (zrt (M.1 0 2) (M.1 2) M.2.2.2.2).2)
theorem zr_read {cI cP cS cZ cM : ClassId} {o : Nat} {M : zCt} {f g : Nat → va_E}  (hP : zCP cI cP cS cZ cM o M f) (hg : g = zRO cI cP cZ (o + 98) (M.1 0 2) (M.1 2) (zrt (M.1 0 2) (M.1 2) M.2.2.2.2).2 f) : zCP cI cP cS cZ cM o (zw_read M) g := by
  have hs : ∀ q, ¬ (o + 98 ≤ q ∧ q < o + 98 + 191) → g q = f q := fun q hq => by rw [hg]; exact zRO_out hq
  exact ⟨(show zX0 cI cP cS cZ cM o (zw_read M) g from zX0.same hP.c0 (fun q h1 h2 => hs q (by omega))),
    (show zX1 cI cP cS cZ cM o (zw_read M) g from zX1.same hP.c1 (fun q h1 h2 => hs q (by omega))),
    (show zX2 cI cP cS cZ cM o (zw_read M) g from by rw [hg]; exact zRdr.of),
    (show zX3 cI cP cS cZ cM o (zw_read M) g from zX3.same hP.c3 (fun q h1 h2 => hs q (by omega))),
    (show zX4 cI cP cS cZ cM o (zw_read M) g from zX4.same hP.c4 (fun q h1 h2 => hs q (by omega))),
    (show zX5 cI cP cS cZ cM o (zw_read M) g from zX5.same hP.c5 (fun q h1 h2 => hs q (by omega))),
    (show zX6 cI cP cS cZ cM o (zw_read M) g from zX6.same hP.c6 (fun q h1 h2 => hs q (by omega))),
    (show zX7 cI cP cS cZ cM o (zw_read M) g from zX7.same hP.c7 (fun q h1 h2 => hs q (by omega))),
    (show zX8 cI cP cS cZ cM o (zw_read M) g from zX8.same hP.c8 (fun q h1 h2 => hs q (by omega))),
    (show zX9 cI cP cS cZ cM o (zw_read M) g from zX9.same hP.c9 (fun q h1 h2 => hs q (by omega))),
    (show zX10 cI cP cS cZ cM o (zw_read M) g from zX10.same hP.c10 (fun q h1 h2 => hs q (by omega))),
    (show zX11 cI cP cS cZ cM o (zw_read M) g from zX11.same hP.c11 (fun q h1 h2 => hs q (by omega))),
    (show zX12 cI cP cS cZ cM o (zw_read M) g from zX12.same hP.c12 (fun q h1 h2 => hs q (by omega)))⟩
noncomputable def zw_fk (M : zCt) (x : Int) : zCt := (za M.1 0 0 x, M.2)
noncomputable def zw_fp (M : zCt) (x : Int) : zCt := (za M.1 0 1 x, M.2)
theorem zr_fk {cI cP cS cZ cM : ClassId} {o : Nat} {M : zCt} {f g : Nat → va_E} {x : Int} (hP : zCP cI cP cS cZ cM o M f) (hg : g = va_up f o (.inr (11, [.ref (o + 98), .ref (o + 289), .ref (o + 304), .ref (o + 606), .ref (o + 607), .ref (o + 611), .ref (o + 615), .ref (o + 623), .ref (o + 628), .ref (o + 634), .ref (o + 680), .int (zI x), .int (zI (M.1 0 1))]))) : zCP cI cP cS cZ cM o (zw_fk M x) g := by
  have hs : ∀ q, q ≠ o → g q = f q := fun q hq => by rw [hg, va_up_ne _ _ hq]
  exact ⟨(show zX0 cI cP cS cZ cM o (zw_fk M x) g from by show g o = _; rw [hg]; exact va_up_self _ _ _),
    (show zX1 cI cP cS cZ cM o (zw_fk M x) g from zX1.same hP.c1 (fun q h1 h2 => hs q (by omega))),
    (show zX2 cI cP cS cZ cM o (zw_fk M x) g from zX2.same hP.c2 (fun q h1 h2 => hs q (by omega))),
    (show zX3 cI cP cS cZ cM o (zw_fk M x) g from zX3.same hP.c3 (fun q h1 h2 => hs q (by omega))),
    (show zX4 cI cP cS cZ cM o (zw_fk M x) g from zX4.same hP.c4 (fun q h1 h2 => hs q (by omega))),
    (show zX5 cI cP cS cZ cM o (zw_fk M x) g from zX5.same hP.c5 (fun q h1 h2 => hs q (by omega))),
    (show zX6 cI cP cS cZ cM o (zw_fk M x) g from zX6.same hP.c6 (fun q h1 h2 => hs q (by omega))),
    (show zX7 cI cP cS cZ cM o (zw_fk M x) g from zX7.same hP.c7 (fun q h1 h2 => hs q (by omega))),
    (show zX8 cI cP cS cZ cM o (zw_fk M x) g from zX8.same hP.c8 (fun q h1 h2 => hs q (by omega))),
    (show zX9 cI cP cS cZ cM o (zw_fk M x) g from zX9.same hP.c9 (fun q h1 h2 => hs q (by omega))),
    (show zX10 cI cP cS cZ cM o (zw_fk M x) g from zX10.same hP.c10 (fun q h1 h2 => hs q (by omega))),
    (show zX11 cI cP cS cZ cM o (zw_fk M x) g from zX11.same hP.c11 (fun q h1 h2 => hs q (by omega))),
    (show zX12 cI cP cS cZ cM o (zw_fk M x) g from zX12.same hP.c12 (fun q h1 h2 => hs q (by omega)))⟩
theorem zr_fp {cI cP cS cZ cM : ClassId} {o : Nat} {M : zCt} {f g : Nat → va_E} {x : Int} (hP : zCP cI cP cS cZ cM o M f) (hg : g = va_up f o (.inr (11, [.ref (o + 98), .ref (o + 289), .ref (o + 304), .ref (o + 606), .ref (o + 607), .ref (o + 611), .ref (o + 615), .ref (o + 623), .ref (o + 628), .ref (o + 634), .ref (o + 680), .int (zI (M.1 0 0)), .int (zI x)]))) : zCP cI cP cS cZ cM o (zw_fp M x) g := by
  have hs : ∀ q, q ≠ o → g q = f q := fun q hq => by rw [hg, va_up_ne _ _ hq]
  exact ⟨(show zX0 cI cP cS cZ cM o (zw_fp M x) g from by show g o = _; rw [hg]; exact va_up_self _ _ _),
    (show zX1 cI cP cS cZ cM o (zw_fp M x) g from zX1.same hP.c1 (fun q h1 h2 => hs q (by omega))),
    (show zX2 cI cP cS cZ cM o (zw_fp M x) g from zX2.same hP.c2 (fun q h1 h2 => hs q (by omega))),
    (show zX3 cI cP cS cZ cM o (zw_fp M x) g from zX3.same hP.c3 (fun q h1 h2 => hs q (by omega))),
    (show zX4 cI cP cS cZ cM o (zw_fp M x) g from zX4.same hP.c4 (fun q h1 h2 => hs q (by omega))),
    (show zX5 cI cP cS cZ cM o (zw_fp M x) g from zX5.same hP.c5 (fun q h1 h2 => hs q (by omega))),
    (show zX6 cI cP cS cZ cM o (zw_fp M x) g from zX6.same hP.c6 (fun q h1 h2 => hs q (by omega))),
    (show zX7 cI cP cS cZ cM o (zw_fp M x) g from zX7.same hP.c7 (fun q h1 h2 => hs q (by omega))),
    (show zX8 cI cP cS cZ cM o (zw_fp M x) g from zX8.same hP.c8 (fun q h1 h2 => hs q (by omega))),
    (show zX9 cI cP cS cZ cM o (zw_fp M x) g from zX9.same hP.c9 (fun q h1 h2 => hs q (by omega))),
    (show zX10 cI cP cS cZ cM o (zw_fp M x) g from zX10.same hP.c10 (fun q h1 h2 => hs q (by omega))),
    (show zX11 cI cP cS cZ cM o (zw_fp M x) g from zX11.same hP.c11 (fun q h1 h2 => hs q (by omega))),
    (show zX12 cI cP cS cZ cM o (zw_fp M x) g from zX12.same hP.c12 (fun q h1 h2 => hs q (by omega)))⟩
noncomputable def zw_ref (M : zCt) (k : Nat) (x : Int) : zCt := (za M.1 1 k x, M.2)
theorem zr_ref {cI cP cS cZ cM : ClassId} {o : Nat} {M : zCt} {f g : Nat → va_E} {k : Nat} {x : Int} (hP : zCP cI cP cS cZ cM o M f) (hg : g = va_up f (o + 680) (zA cI 5 (zup (M.1 1) k x))) : zCP cI cP cS cZ cM o (zw_ref M k x) g := by
  have hs : ∀ q, q ≠ o + 680 → g q = f q := fun q hq => by rw [hg, va_up_ne _ _ hq]
  exact ⟨(show zX0 cI cP cS cZ cM o (zw_ref M k x) g from zX0.same hP.c0 (fun q h1 h2 => hs q (by omega))),
    (show zX1 cI cP cS cZ cM o (zw_ref M k x) g from zX1.same hP.c1 (fun q h1 h2 => hs q (by omega))),
    (show zX2 cI cP cS cZ cM o (zw_ref M k x) g from zX2.same hP.c2 (fun q h1 h2 => hs q (by omega))),
    (show zX3 cI cP cS cZ cM o (zw_ref M k x) g from zX3.same hP.c3 (fun q h1 h2 => hs q (by omega))),
    (show zX4 cI cP cS cZ cM o (zw_ref M k x) g from zX4.same hP.c4 (fun q h1 h2 => hs q (by omega))),
    (show zX5 cI cP cS cZ cM o (zw_ref M k x) g from zX5.same hP.c5 (fun q h1 h2 => hs q (by omega))),
    (show zX6 cI cP cS cZ cM o (zw_ref M k x) g from zX6.same hP.c6 (fun q h1 h2 => hs q (by omega))),
    (show zX7 cI cP cS cZ cM o (zw_ref M k x) g from zX7.same hP.c7 (fun q h1 h2 => hs q (by omega))),
    (show zX8 cI cP cS cZ cM o (zw_ref M k x) g from zX8.same hP.c8 (fun q h1 h2 => hs q (by omega))),
    (show zX9 cI cP cS cZ cM o (zw_ref M k x) g from zX9.same hP.c9 (fun q h1 h2 => hs q (by omega))),
    (show zX10 cI cP cS cZ cM o (zw_ref M k x) g from zX10.same hP.c10 (fun q h1 h2 => hs q (by omega))),
    (show zX11 cI cP cS cZ cM o (zw_ref M k x) g from zX11.same hP.c11 (fun q h1 h2 => hs q (by omega))),
    (show zX12 cI cP cS cZ cM o (zw_ref M k x) g from by show g (o + 680) = _; rw [hg]; exact va_up_self _ _ _)⟩
end ZCe
