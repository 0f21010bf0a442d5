section ZJf
theorem zown_34 {n : Int} {T : Nat → Int} {a : Int} : (zown n T a = 3 ↔ ¬ zwd n T 2 a = 0) ∧ (zown n T a = 4 ↔ zwd n T 2 a = 0 ∧ ¬ zwd n T 3 a = 0) := by
  have l := zlen_all
  have x : ∀ i, i < 2 → ¬ zwd n T i a = 0 → zwd n T 2 a = 0 ∧ zwd n T 3 a = 0 := fun i hi h => by
    have l0 : zlen i = 5 := by
      have : i = 0 ∨ i = 1 := by omega
      rcases this with e | e
      · rw [e]; exact l.1
      · rw [e]; exact l.2.1
    have e1 := zwd_len h
    refine ⟨Classical.byContradiction fun z => ?_, Classical.byContradiction fun z => ?_⟩
    · have := zwd_len z
      rw [l.2.2.1] at this
      omega
    · have := zwd_len z
      rw [l.2.2.2] at this
      omega
  unfold zown
  by_cases c0 : zwd n T 0 a = 0
  · rw [if_pos c0]
    by_cases c1 : zwd n T 1 a = 0
    · rw [if_pos c1]
      by_cases c2 : zwd n T 2 a = 0
      · rw [if_pos c2]
        by_cases c3 : zwd n T 3 a = 0
        · rw [if_pos c3]
          exact ⟨⟨fun z => absurd z (by decide), fun z => absurd c2 z⟩, ⟨fun z => absurd z (by decide), fun z => absurd c3 z.2⟩⟩
        · rw [if_neg c3]
          exact ⟨⟨fun z => absurd z (by decide), fun z => absurd c2 z⟩, ⟨fun _ => ⟨c2, c3⟩, fun _ => rfl⟩⟩
      · rw [if_neg c2]
        exact ⟨⟨fun _ => c2, fun _ => rfl⟩, ⟨fun z => absurd z (by decide), fun z => absurd z.1 c2⟩⟩
    · rw [if_neg c1]
      obtain ⟨y1, y2⟩ := x 1 (by decide) c1
      exact ⟨⟨fun z => absurd z (by decide), fun z => absurd y1 z⟩, ⟨fun z => absurd z (by decide), fun z => absurd y2 z.2⟩⟩
  · rw [if_neg c0]
    obtain ⟨y1, y2⟩ := x 0 (by decide) c0
    exact ⟨⟨fun z => absurd z (by decide), fun z => absurd y1 z⟩, ⟨fun z => absurd z (by decide), fun z => absurd y2 z.2⟩⟩
/-- one TERM of degree 1 in a grid -/
theorem zgE_1 {S : zS2} {g : Nat} {p : Int} {x y : Nat} (hxy : x + y ≤ 4) (hx : x < 5) (hy : y < 5) (hS : S 0 10 = p) (hp : 2 ≤ p) (h0 : ∀ q, q < 25 → S 3 (25 * g + q) = 0) : zgE (zm_sets S g x y 1) g (zput (zone 0) x y 1) ∧ ∀ a i : Nat, ¬ (a = 3 ∧ 25 * g ≤ i ∧ i < 25 * g + 25) → (zm_sets S g x y 1) a i = S a i := by
  rw [zm_setsE (p := p) hS (by omega), show (1 : Int) % p = 1 from Int.emod_eq_of_lt (by omega) (by omega)]
  have e : zput (zone 0) (x : Int) (y : Int) 1 = zup (zone 0) (5 * x + y) 1 := by
    rw [zput_t (show zfits (x : Int) (y : Int) by unfold zfits; omega), show ((x : Int) * 5 + (y : Int)).toNat = 5 * x + y by omega]
  rw [e]
  refine ⟨fun q hq => ?_, fun a i h => by rw [za_ne (by omega)]⟩
  rw [zup_ap]
  by_cases c : q = 5 * x + y
  · rw [if_pos c, c, show 25 * g + (5 * x + y) = 25 * g + 5 * x + y by omega, za_same]
  · rw [if_neg c, za_ne (by omega), h0 q hq]
    unfold zone
    split <;> rfl
theorem zput1_can {p : Int} (hp : 2 ≤ p) (x y : Int) : zcan p (zput (zone 0) x y 1) := zcan_put (zone_can (by omega) (by omega)) _ _ (by omega)
/-- an ATOM or a bracket, both -/
theorem zp_open {n p : Int} {T : Nat → Int} (hpr : zPr p) {Q S : zS2} (h : zPs n T p Q S) {o : Nat} (hg : zPg p o Q S) (hz : zop n T (Q 0 0)) :
    (∃ Q' S', zrs0 n T o Q = (1, 0, o + 1, Q') ∧ zm_opensBracket S = (1, S') ∧ zPs n T p Q' S' ∧ zPg p (o + 1) Q' S' ∧ zop n T (Q' 0 0) ∧ Q 0 0 < Q' 0 0 ∧ zQc Q Q' ∧ zPf S S') ∨
    (∃ Q' S' w, zrs0 n T o Q = (0, 0, w, Q') ∧ zm_opensBracket S = (0, S') ∧ zFl Q' S' ∧ zPf S S') ∨
    (∃ Q1 S1, zm_opensBracket S = (0, S1) ∧ zrs0 n T o Q = (if (zrf n T o (S1 8 o) Q1).1 = 0 then (0, 0, o, (zrf n T o (S1 8 o) Q1).2) else zrsW n T o (zrf n T o (S1 8 o) Q1).2) ∧ zPs n T p Q1 S1 ∧ zPg p o Q1 S1 ∧ zgE S1 (14 + 3 * o) (Q1 4) ∧ zcan p (Q1 4) ∧ Q 0 0 < Q1 0 0 ∧ zQc Q Q1 ∧ zPf S S1) := by
  have hp := zPr_2 hpr
  have hps := h
  have hpos := h.pos
  obtain ⟨hU, h8, h6, hr, hq3, h10⟩ := h
  obtain ⟨h19, ho, hL, hst⟩ := hg
  obtain ⟨a, ha⟩ : ∃ a, a = zsk n T (Q 0 0) := ⟨_, rfl⟩
  have rk := zsk_r (T := T) hr
  have ida : zsk n T a = a := by rw [ha]; exact zsk_id hr
  rw [← ha] at rk
  have za1 : zop n T a := by rw [ha]; exact zop_sk hz
  obtain ⟨S1, hS1⟩ : ∃ S1, S1 = za (za S 0 6 a) 8 o a := ⟨_, rfl⟩
  have eM := zob_e hU hpos h8 h19 (show a = zsk n T (S 0 6) by rw [h6]; exact ha) hS1
  have s1 : ∀ a i : Nat, ¬ (a = 0 ∧ i = 6) → ¬ (a = 8 ∧ i = o) → S1 a i = S a i := fun a i h1 h2 => by rw [hS1, za_ne h2, za_ne h1]
  have s16 : S1 0 6 = a := by rw [hS1, za_ne (by omega), za_same]
  have s18 : S1 0 8 = 0 := by rw [s1 0 8 (by omega) (by omega), h8]
  have s1o : S1 8 o = a := by rw [hS1, za_same]
  have hU1 : zU n T S1 := hU.same (s1 0 5 (by omega) (by omega)) (fun k => s1 1 k (by omega) (by omega))
  have pf1 : zPf S S1 := fun x i a1 a2 a3 a4 a5 => s1 x i (by omega) (by omega)
  -- the class skips
  obtain ⟨Q1, hQ1⟩ : ∃ Q1, Q1 = zskS n T Q := ⟨_, rfl⟩
  have qs : Q1 0 0 = a ∧ (∀ j, 3 ≤ j → Q1 0 j = Q 0 j) ∧ ∀ k, k ≠ 0 → Q1 k = Q k := by
    rw [hQ1]
    unfold zskS
    rw [← ha]
    obtain ⟨r1, r2, r3, r4, r5⟩ := zsr_0 Q a (Q 0 1) (Q 0 2)
    exact ⟨r1, r4, r5⟩
  obtain ⟨q10, q1j, q1k⟩ := qs
  have eZ : zrs0 n T o Q = if (ztk n T 40 Q1).1 = 0 then zrs1 n T o a (ztk n T 40 Q1).2 else if 40 ≤ o then (0, 0, o, zfl 4 a (ztk n T 40 Q1).2) else (1, 0, o + 1, zbg n T (o + 1) (zset (ztk n T 40 Q1).2 3 (zup ((ztk n T 40 Q1).2 3) o a))) := by
    unfold zrs0
    rw [← hQ1, q10]
  by_cases c : zby n T a = 40
  · -- a bracket
    rw [if_pos c] at eM
    have ain := zby_in (n := n) (T := T) (a := a) (by omega)
    obtain ⟨Q2, hQ2⟩ : ∃ Q2, Q2 = zsr Q1 (a + 1) (Q1 0 1) (Q1 0 2) := ⟨_, rfl⟩
    obtain ⟨r1, r2, r3, r4, r5⟩ := zsr_0 Q1 (a + 1) (Q1 0 1) (Q1 0 2)
    rw [← hQ2] at r1 r2 r3 r4 r5
    have et : ztk n T 40 Q1 = (1, Q2) := by
      unfold ztk
      rw [q10, ida, if_pos c, hQ2]
    rw [et] at eZ
    dsimp only at eZ
    rw [if_neg (show ¬ (1 : Int) = 0 by decide)] at eZ
    have s119 : S1 0 19 = o := by rw [s1 0 19 (by omega) (by omega), h19]
    by_cases c40 : 40 ≤ o
    · have e33 : zm_opensBracket_J33 S1 = zm_faults S1 4 a := by
        unfold zm_opensBracket_J33
        rw [if_pos (by omega), zlet_v, s16]
      have t := zs_flt (S := S1) (S' := S1) s18 zFs.rf 4 a
      rw [e33, if_pos (show zm_goesWell (zm_faults S1 4 a) = 0 from if_neg (by rw [t.2.1]; decide))] at eM
      rw [if_pos c40] at eZ
      exact Or.inr (Or.inl ⟨_, _, o, eZ, eM, zFl_of t.2.1 t.2.2 (by decide) _, pf1.tr t.1.pf⟩)
    · have e33 : zm_opensBracket_J33 S1 = S1 := by
        unfold zm_opensBracket_J33
        rw [if_neg (by omega)]
      obtain ⟨S2, hS2⟩ : ∃ S2, S2 = za (za S1 0 6 (a + 1)) 0 19 ((o + 1 : Nat) : Int) := ⟨_, rfl⟩
      rw [e33, if_neg (show ¬ zm_goesWell S1 = 0 by rw [show zm_goesWell S1 = 1 from if_pos s18]; decide), s16, za_ne (show ¬ (0 = 0 ∧ 19 = 6) by omega), s119, show (o : Int) + 1 = ((o + 1 : Nat) : Int) by omega, ← hS2] at eM
      rw [if_neg c40] at eZ
      obtain ⟨Q3, hQ3⟩ : ∃ Q3, Q3 = zset Q2 3 (zup (Q2 3) o a) := ⟨_, rfl⟩
      rw [← hQ3] at eZ
      have q3k : ∀ k, k ≠ 3 → Q3 k = Q2 k := fun k hk => by rw [hQ3, zset_ne _ _ hk]
      have q33 : Q3 3 = zup (Q 3) o a := by rw [hQ3, zset_self, r5 3 (by decide), q1k 3 (by decide)]
      have s2 : ∀ a i : Nat, ¬ (a = 0 ∧ (i = 6 ∨ i = 19)) → S2 a i = S1 a i := fun a i h1 => by rw [hS2, za_ne (by omega), za_ne (by omega)]
      have hP3 : zPs n T p Q3 S2 := by
        refine ⟨hU1.same (s2 0 5 (by omega)) (fun k => s2 1 k (by omega)), by rw [s2 0 8 (by omega), s18], ?_, ?_, ?_, ?_⟩
        · rw [hS2, za_ne (by omega), za_same, q3k 0 (by decide), r1]
        · rw [q3k 0 (by decide), r1]; omega
        · rw [q3k 0 (by decide), r4 3 (by decide), q1j 3 (by decide), hq3]
        · rw [s2 0 10 (by omega), s1 0 10 (by omega) (by omega), h10]
      have b := zp_begin hp.1 hP3 (o := o + 1) (by rw [hS2, za_same]) (by omega) (by rw [q3k 0 (by decide), r1]; exact zop_at c (by omega) (by omega))
      obtain ⟨b1, b2, b3, b4, b5, b6⟩ := b
      obtain ⟨Q4, hQ4⟩ : ∃ Q4, Q4 = zbg n T (o + 1) Q3 := ⟨_, rfl⟩
      obtain ⟨S4, hS4⟩ : ∃ S4, S4 = zm_beginsSum S2 := ⟨_, rfl⟩
      rw [← hQ4] at b1 b2 b3 b4 b5 eZ
      rw [← hS4] at b1 b4 b6 eM
      have kk : ∀ k, k ≠ 0 → k ≠ 3 → Q3 k = Q k := fun k h1 h2 => by rw [q3k k h2, r5 k h1, q1k k h1]
      refine Or.inl ⟨Q4, S4, eZ, eM, b1, ⟨?_, by omega, fun k hk => ?_, fun k hk => ?_⟩, b2, ?_, ?_, ?_⟩
      · rw [b6 0 19 (by omega) (by omega) (by omega) (by omega) (by omega), hS2, za_same]
      · by_cases e : k = o + 1
        · rw [e]; exact b4
        · have L3 : zLv p k Q3 S2 := (hL k (by omega)).sc (fun j hj => kk j (by omega) (by omega)) (fun x i hx => by rw [s2 x i (by omega), s1 x i (by omega) (by omega)])
          exact L3.fr e (by omega) (by omega) b5 b6
      · rw [b5.2.2.1 3 (by omega) (by omega) (by omega) (by omega) (by omega) (by omega) (by omega), q33, b6 8 k (by omega) (by omega) (by omega) (by omega) (by omega), s2 8 k (by omega), zup_ap]
        by_cases e : k = o
        · rw [if_pos e, e, s1o]
        · rw [if_neg e, s1 8 k (by omega) (by omega)]
          exact hst k (by omega)
      · rw [q3k 0 (by decide), r1] at b3
        omega
      · refine ⟨?_, fun k hk => ?_⟩
        · rw [b5.2.1, q3k 0 (by decide), r4 4 (by decide), q1j 4 (by decide)]
        · rw [b5.2.2.1 k (by omega) (by omega) (by omega) (by omega) (by omega) (by omega) (by omega), kk k (by omega) (by omega)]
      · intro x i a1 a2 a3 a4 a5
        rw [b6 x i (by omega) (by omega) (by omega) a2 (by omega), s2 x i (by omega), s1 x i (by omega) (by omega)]
  · -- no bracket
    rw [if_neg c] at eM
    obtain ⟨Q2, hQ2⟩ : ∃ Q2, Q2 = zskS n T Q1 := ⟨_, rfl⟩
    have qs2 : Q2 0 0 = a ∧ (∀ j, 3 ≤ j → Q2 0 j = Q 0 j) ∧ ∀ k, k ≠ 0 → Q2 k = Q k := by
      rw [hQ2]
      unfold zskS
      rw [q10, ida]
      obtain ⟨r1, r2, r3, r4, r5⟩ := zsr_0 Q1 a (Q1 0 1) (Q1 0 2)
      exact ⟨r1, fun j hj => by rw [r4 j hj, q1j j hj], fun k hk => by rw [r5 k hk, q1k k hk]⟩
    obtain ⟨q20, q2j, q2k⟩ := qs2
    have et : ztk n T 40 Q1 = (0, Q2) := by
      unfold ztk
      rw [q10, ida, if_neg c, hQ2]
    rw [et] at eZ
    dsimp only at eZ
    rw [if_pos (show (0 : Int) = 0 from rfl)] at eZ
    have eZ1 : ∀ m Q3, zra n T Q2 = (m, Q3) → zrs0 n T o Q = if m = 0 then (0, 0, o, Q3) else (if (zrf n T o a Q3).1 = 0 then (0, 0, o, (zrf n T o a Q3).2) else zrsW n T o (zrf n T o a Q3).2) := fun m Q3 e => by
      rw [eZ]
      unfold zrs1
      rw [e]
      rfl
    obtain ⟨E, hE⟩ : ∃ E, E = zm_empties S1 ((14 + 3 * o : Nat) : Int) := ⟨_, rfl⟩
    have eo : ∀ a i : Nat, ¬ (a = 3 ∧ 25 * (14 + 3 * o) ≤ i ∧ i < 25 * (14 + 3 * o) + 25) → E a i = S1 a i := fun a i h1 => by rw [hE, zm_empties_sp, if_neg h1]
    have e0 : ∀ q, q < 25 → E 3 (25 * (14 + 3 * o) + q) = 0 := fun q hq => by rw [hE, zm_empties_sp, if_pos (by omega)]
    have hUE : zU n T E := hU1.same (eo 0 5 (by omega)) (fun k => eo 1 k (by omega))
    have e6 : E 0 6 = a := by rw [eo 0 6 (by omega), s16]
    have e8 : E 0 8 = 0 := by rw [eo 0 8 (by omega), s18]
    have e10 : E 0 10 = p := by rw [eo 0 10 (by omega), s1 0 10 (by omega) (by omega), h10]
    rw [← hE] at eM
    -- what follows from a good ATOM
    have fin : ∀ (Q3 S3 S4 : zS2) (v : Nat → Int), zFs E S3 → S3 0 8 = 0 → S4 0 6 = Q3 0 0 → (∀ x i : Nat, ¬ (x = 3 ∧ 25 * (14 + 3 * o) ≤ i ∧ i < 25 * (14 + 3 * o) + 25) → S4 x i = S3 x i) → zgE S4 (14 + 3 * o) v → Q3 4 = v → zcan p v → (a < Q3 0 0 ∧ Q3 0 0 ≤ n) → (∀ j, 3 ≤ j → Q3 0 j = Q 0 j) → (∀ k, k ≠ 0 → k ≠ 4 → Q3 k = Q k) → zPs n T p Q3 S4 ∧ zPg p o Q3 S4 ∧ zgE S4 (14 + 3 * o) (Q3 4) ∧ zcan p (Q3 4) ∧ Q 0 0 < Q3 0 0 ∧ zQc Q Q3 ∧ zPf S S4 ∧ S4 8 o = a := fun Q3 S3 S4 v f3 s38 s46 f4 g4 q4 c4 hq hj hk => by
      have all : ∀ x i : Nat, ¬ (x = 0 ∧ 6 ≤ i ∧ i ≤ 9) → ¬ (x = 3 ∧ 25 * (14 + 3 * o) ≤ i ∧ i < 25 * (14 + 3 * o) + 25) → S4 x i = S1 x i := fun x i h1 h2 => by rw [f4 x i h2, f3 x i h1, eo x i h2]
      refine ⟨⟨hU1.same (all 0 5 (by omega) (by omega)) (fun k => all 1 k (by omega) (by omega)), by rw [f4 0 8 (by omega), s38], s46, by omega, by rw [hj 3 (by decide), hq3], by rw [all 0 10 (by omega) (by omega), s1 0 10 (by omega) (by omega), h10]⟩, ⟨by rw [all 0 19 (by omega) (by omega), s1 0 19 (by omega) (by omega), h19], ho, fun k hk' => ?_, fun k hk' => ?_⟩, by rw [q4]; exact g4, by rw [q4]; exact c4, by omega, ⟨hj 4 (by decide), fun k hk' => hk k (by omega) (by omega)⟩, fun x i a1 a2 a3 a4 a5 => by rw [all x i (by omega) (by omega), s1 x i (by omega) (by omega)], by rw [all 8 o (by omega) (by omega), s1o]⟩
      · exact (hL k hk').sc (fun j hj' => hk j (by omega) (by omega)) (fun x i hx => by rw [all x i (by omega) (by omega), s1 x i (by omega) (by omega)])
      · rw [hk 3 (by decide) (by decide), all 8 k (by omega) (by omega), s1 8 k (by omega) (by omega)]
        exact hst k hk'
    by_cases d : zdig (zby n T a) = 0
    · rw [if_pos d] at eM
      obtain ⟨z, S3, z1, z2, z3, z4, z5, z6⟩ := zs_comes hUE (by rw [e6]; omega) e8
      rw [e6, ida] at z5 z6
      rw [z1] at eM
      dsimp only at eM
      have small : ¬ (97 ≤ zby n T a ∧ zby n T a ≤ 122) → zwd n T 2 a = 0 ∧ zwd n T 3 a = 0 := fun hs => ⟨Classical.byContradiction fun y => hs (zwd_sm (by decide) y).1, Classical.byContradiction fun y => hs (zwd_sm (by decide) y).1⟩
      have zz : (z = 3 ↔ ¬ zwd n T 2 a = 0) ∧ (z = 4 ↔ zwd n T 2 a = 0 ∧ ¬ zwd n T 3 a = 0) := by
        rcases z6 with ⟨w1, w2⟩ | ⟨w1, w2⟩
        · obtain ⟨y1, y2⟩ := small (fun y => w1 ⟨y, za1⟩)
          rw [w2]
          exact ⟨⟨fun y => absurd y (by decide), fun y => absurd y1 y⟩, ⟨fun y => absurd y (by decide), fun y => absurd y2 y.2⟩⟩
        · rw [w2]; exact zown_34
      by_cases ok : z = 3 ∨ z = 4
      · have e128 : zm_opensBracket_J128 z S3 = S3 := by
          unfold zm_opensBracket_J128
          rcases ok with e | e
          · rw [if_pos e]
          · rw [if_neg (by omega), if_pos e]
        rw [e128, if_neg (show ¬ zm_goesWell S3 = 0 by rw [show zm_goesWell S3 = 1 from if_pos z3]; decide)] at eM
        have wh : zwdh n T a := by
          rcases z6 with ⟨_, w2⟩ | ⟨w1, _⟩
          · omega
          · exact w1
        have wd := zs_word (hUE.fs z2) (by rw [z5]; omega) z3
        rw [z5, ida] at wd
        rcases wd with ⟨w1, _⟩ | ⟨_, w2, w3, w4, w5, w6⟩
        · exact absurd wh w1
        · have we : zwe n T a = a + 1 := by
            rcases ok with e | e
            · have := (zwd_sm (by decide) (zz.1.1 e)).2
              rw [zlen_all.2.2.1] at this
              exact this
            · have := (zwd_sm (by decide) (zz.2.1 e).2).2
              rw [zlen_all.2.2.2] at this
              exact this
          have wr := (zwe_rng (T := T) (n := n) (a := a) (by omega)).2
          obtain ⟨S4, hS4⟩ : ∃ S4, S4 = zm_word S3 := ⟨_, rfl⟩
          rw [← hS4] at w2 w3 w4 w5 w6 eM
          have f4 : zFs E S4 := z2.tr w2
          rw [f4 0 19 (by omega), eo 0 19 (by omega), s1 0 19 (by omega) (by omega), h19, zm_atom_n] at eM
          obtain ⟨xx, yy, hxy⟩ : ∃ xx yy : Nat, (xx = 1 ∧ yy = 0 ∧ z = 3) ∨ (xx = 0 ∧ yy = 1 ∧ z = 4) := by
            rcases ok with e | e
            · exact ⟨1, 0, Or.inl ⟨rfl, rfl, e⟩⟩
            · exact ⟨0, 1, Or.inr ⟨rfl, rfl, e⟩⟩
          have eM2 : zm_opensBracket S = (0, zm_sets S4 ((14 + 3 * o : Nat) : Int) xx yy 1) := by
            rw [eM]
            rcases hxy with ⟨x1, y1, e⟩ | ⟨x1, y1, e⟩
            · rw [if_pos e, x1, y1]; rfl
            · rw [if_neg (by omega), x1, y1]; rfl
          obtain ⟨g1, g2⟩ := zgE_1 (S := S4) (g := 14 + 3 * o) (p := p) (x := xx) (y := yy) (by omega) (by omega) (by omega) (by rw [f4 0 10 (by omega), e10]) hp.1 (fun q hq => by rw [f4 3 _ (by omega)]; exact e0 q hq)
          obtain ⟨S5, hS5⟩ : ∃ S5, S5 = zm_sets S4 ((14 + 3 * o : Nat) : Int) xx yy 1 := ⟨_, rfl⟩
          rw [← hS5] at g1 g2 eM2
          have er : zra n T Q2 = (1, zra2 (zwd n T 2 a) Q2) := by
            unfold zra
            rw [q20, if_pos d, if_neg (fun y => by
              rcases ok with e | e
              · exact zz.1.1 e y.1
              · exact (zz.2.1 e).2 y.2)]
          obtain ⟨Q3, hQ3⟩ : ∃ Q3, Q3 = zra2 (zwd n T 2 a) Q2 := ⟨_, rfl⟩
          have q3 : Q3 0 0 = a + 1 ∧ (∀ j, 3 ≤ j → Q3 0 j = Q 0 j) ∧ Q3 4 = zput (zone 0) xx yy 1 ∧ ∀ k, k ≠ 0 → k ≠ 4 → Q3 k = Q k := by
            rw [hQ3]
            unfold zra2
            obtain ⟨r1, r2, r3, r4, r5⟩ := zsr_0 (zset Q2 4 (zput (zone 0) (if zwd n T 2 a = 0 then 0 else 1) (if zwd n T 2 a = 0 then 1 else 0) 1)) (Q2 0 0 + 1) (Q2 0 1) (Q2 0 2)
            refine ⟨by rw [r1, q20], fun j hj => by rw [r4 j hj, zset_ne _ _ (by decide), q2j j hj], ?_, fun k h1 h2 => by rw [r5 k h1, zset_ne _ _ h2, q2k k h1]⟩
            rw [r5 4 (by decide), zset_self]
            rcases hxy with ⟨x1, y1, e⟩ | ⟨x1, y1, e⟩
            · rw [if_neg (zz.1.1 e), if_neg (zz.1.1 e), x1, y1]; rfl
            · rw [if_pos (zz.2.1 e).1, if_pos (zz.2.1 e).1, x1, y1]; rfl
          have fn := fin Q3 S4 S5 _ f4 w3 (by rw [g2 0 6 (by omega), w6, we, q3.1]) g2 g1 q3.2.2.1 (zput1_can hp.1 _ _) (by rw [q3.1]; omega) q3.2.1 q3.2.2.2
          obtain ⟨a1, a2, a3, a4, a5, a6, a7, a8⟩ := fn
          refine Or.inr (Or.inr ⟨Q3, S5, eM2, ?_, a1, a2, a3, a4, a5, a6, a7⟩)
          rw [a8, eZ1 1 Q3 (by rw [er, hQ3]), if_neg (by decide)]
      · have e128 : zm_opensBracket_J128 z S3 = zm_faults S3 1 a := by
          unfold zm_opensBracket_J128
          rw [if_neg (by omega), if_neg (by omega), zlet_v, z5]
        have t := zs_flt (S := E) (S' := S3) z3 z2 1 a
        rw [e128, if_pos (show zm_goesWell (zm_faults S3 1 a) = 0 from if_neg (by rw [t.2.1]; decide))] at eM
        have er : zra n T Q2 = (0, zfl 1 a Q2) := by
          unfold zra
          rw [q20, if_pos d, if_pos ⟨Classical.byContradiction fun y => ok (Or.inl (zz.1.2 y)), Classical.byContradiction fun y => by
            by_cases y2 : zwd n T 2 a = 0
            · exact ok (Or.inr (zz.2.2 ⟨y2, y⟩))
            · exact ok (Or.inl (zz.1.2 y2))⟩]
        refine Or.inr (Or.inl ⟨_, _, o, (eZ1 0 _ er).trans (if_pos rfl), eM, zFl_of t.2.1 t.2.2 (by decide) _, fun x i a1 a2 a3 a4 a5 => ?_⟩)
        rw [t.1 x i (by omega), eo x i (by omega), s1 x i (by omega) (by omega)]
    · rw [if_neg d] at eM
      have num := zs_number hUE (by rw [e6]; omega) e8
      rw [e6, ida] at num
      obtain ⟨q, hq⟩ : ∃ q, q = zm_number E := ⟨_, rfl⟩
      rw [← hq] at num eM
      have en : zrn n T Q2 = (zrnV (zrnA n T a), zsr Q2 (zrnA n T a).1 (Q2 0 1) (Q2 0 2)) := by
        unfold zrn
        rw [q20]
      obtain ⟨r1, r2, r3, r4, r5⟩ := zsr_0 Q2 (zrnA n T a).1 (Q2 0 1) (Q2 0 2)
      have er0 : zra n T Q2 = zra1 a (zrn n T Q2) := by
        unfold zra
        rw [q20, if_neg d]
      rw [en] at er0
      rcases num with ⟨n1, _⟩ | ⟨_, n2, n3, n4⟩
      · exact absurd ⟨d, za1⟩ n1
      · obtain ⟨g1, g2⟩ : zgE (zm_sets q.2 ((14 + 3 * o : Nat) : Int) 0 0 q.1) (14 + 3 * o) (zone (q.1 % p)) ∧ ∀ x i : Nat, ¬ (x = 3 ∧ 25 * (14 + 3 * o) ≤ i ∧ i < 25 * (14 + 3 * o) + 25) → (zm_sets q.2 ((14 + 3 * o : Nat) : Int) 0 0 q.1) x i = q.2 x i := by
          have f : zFs E q.2 := by
            rcases n2 with ⟨_, t⟩ | ⟨_, _, t, _⟩
            · exact t.1
            · exact t
          have e := zm_setsE (X := q.2) (p := p) (g := 14 + 3 * o) (i := 0) (j := 0) (v := q.1) (by rw [f 0 10 (by omega), e10]) (by omega)
          have e' : zm_sets q.2 ((14 + 3 * o : Nat) : Int) 0 0 q.1 = za q.2 3 (25 * (14 + 3 * o) + 5 * 0 + 0) (q.1 % p) := e
          rw [e']
          refine ⟨fun y hy => ?_, fun x i hx => by rw [za_ne (by omega)]⟩
          unfold zone
          by_cases y0 : y = 0
          · rw [y0, if_pos rfl, show 25 * (14 + 3 * o) + 5 * 0 + 0 = 25 * (14 + 3 * o) + 0 by omega, za_same]
          · rw [if_neg y0, za_ne (by omega), f 3 _ (by omega)]
            exact e0 y hy
        obtain ⟨S5, hS5⟩ : ∃ S5, S5 = zm_sets q.2 ((14 + 3 * o : Nat) : Int) 0 0 q.1 := ⟨_, rfl⟩
        rw [← hS5] at g1 g2 eM
        rcases n2 with ⟨m1, m2⟩ | ⟨m1, m2, m3, m4, m5, m6, m7⟩
        · have er : zra n T Q2 = (0, zfl 2 a (zset (zsr Q2 (zrnA n T a).1 (Q2 0 1) (Q2 0 2)) 4 (zone (zrnV (zrnA n T a) % (zsr Q2 (zrnA n T a).1 (Q2 0 1) (Q2 0 2)) 0 3)))) := by
            rw [er0]
            unfold zra1
            rw [if_pos m1]
          refine Or.inr (Or.inl ⟨_, S5, o, (eZ1 0 _ er).trans (if_pos rfl), eM, zFl_of (by rw [g2 0 8 (by omega), m2.2.1]) (by rw [g2 0 9 (by omega), m2.2.2]) (by decide) _, fun x i a1 a2 a3 a4 a5 => ?_⟩)
          rw [g2 x i (by omega), m2.1 x i (by omega), eo x i (by omega), s1 x i (by omega) (by omega)]
        · obtain ⟨Q3, hQ3⟩ : ∃ Q3, Q3 = zset (zsr Q2 (zrnA n T a).1 (Q2 0 1) (Q2 0 2)) 4 (zone (zrnV (zrnA n T a) % (zsr Q2 (zrnA n T a).1 (Q2 0 1) (Q2 0 2)) 0 3)) := ⟨_, rfl⟩
          have er : zra n T Q2 = (1, Q3) := by
            rw [er0]
            unfold zra1
            rw [if_neg (by omega), hQ3]
          have lt : a < (zrnA n T a).1 := by
            have := zby_in (n := n) (T := T) (a := a) (by have := zdig_1 d; omega)
            unfold zrnA
            rw [zrnF_s T 0 this.2, if_neg d]
            have hmono : ∀ (m : Nat) (b v : Int), b ≤ (zrnF n T m b v).1 := fun m => by
              induction m with
              | zero => intro b v; simp only [zrnF]; exact Int.le_refl _
              | succ m ih =>
                intro b v
                simp only [zrnF]
                split
                · exact Int.le_refl _
                · have := ih (b + 1) (min (v * 10 + zby n T b - 48) 2147483648)
                  omega
            have := hmono (n - (a + 1)).toNat (a + 1) (min (0 * 10 + zby n T a - 48) 2147483648)
            omega
          have fn := fin Q3 q.2 S5 (zone (q.1 % p)) m3 m4 (by rw [g2 0 6 (by omega), m7, hQ3, zset_ne _ _ (by decide), r1]) g2 g1 (by rw [hQ3, zset_self, r4 3 (by decide), q2j 3 (by decide), hq3, m2]) (zone_can (by omega) (zmr _ (by omega))) (by rw [hQ3, zset_ne _ _ (by decide), r1]; exact ⟨lt, n4⟩) (fun j hj => by rw [hQ3, zset_ne _ _ (by decide), r4 j hj, q2j j hj]) (fun k h1 h2 => by rw [hQ3, zset_ne _ _ h2, r5 k h1, q2k k h1])
          obtain ⟨a1, a2, a3, a4, a5, a6, a7, a8⟩ := fn
          refine Or.inr (Or.inr ⟨Q3, S5, eM, ?_, a1, a2, a3, a4, a5, a6, a7⟩)
          rw [a8, eZ1 1 Q3 er, if_neg (by decide)]
end ZJf
