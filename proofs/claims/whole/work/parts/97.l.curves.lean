section ZJl
/-- a CURVE, both -/
def zCu (n : Int) (T : Nat → Int) (p : Int) (Q S : zS2) (C : Int × zS2) (M : zS2) : Prop := zDf S M ∧ ((C.1 = 0 ∧ zFl C.2 M) ∨ (C.1 = 1 ∧ zPs n T p C.2 M ∧ Q 0 0 < C.2 0 0 ∧ zop n T (C.2 0 0) ∧ zDr p C.2 M))
theorem zp_curve {n p : Int} {T : Nat → Int} (hpr : zPr p) {Q S : zS2} (h : zPs n T p Q S) (hd : zDr p Q S) (hz : zop n T (Q 0 0)) (hi : zsk n T (Q 0 0) = Q 0 0) : zCu n T p Q S (zrc n T Q) (zm_readsCurve S) := by
  have hps := h
  have hds := hd
  obtain ⟨hU, h8, h6, hr, hq3, h10⟩ := h
  obtain ⟨d1, d2, d3⟩ := hd
  obtain ⟨a, ha⟩ : ∃ a, a = Q 0 0 := ⟨_, rfl⟩
  have wd := zs_word hU hps.pos h8
  rw [h6, hi, ← ha] at wd
  rw [← ha] at hr hz
  have eM := zs_curveE S
  obtain ⟨S1, hS1⟩ : ∃ S1, S1 = zm_word S := ⟨_, rfl⟩
  obtain ⟨C, hC⟩ : ∃ C, C = zrc n T Q := ⟨_, rfl⟩
  obtain ⟨M, hM⟩ : ∃ M, M = zm_readsCurve S := ⟨_, rfl⟩
  rw [← hS1] at wd
  rw [← hM] at eM ⊢
  rw [← hC]
  have e8 : zcu8 S = zm_readsCurve_J8 S1 (zm_goesWell S1) := by
    unfold zcu8
    rw [← hS1]
  have fail : ∀ (SJ : zS2) (kd : Int), zcu32 S = SJ → zft S SJ kd a → kd ≠ 0 → C = (0, zfl kd a Q) → zCu n T p Q S C M := fun SJ kd e1 t hk eC => by
    have z8 : ¬ SJ 0 8 = 0 := by rw [t.2.1]; exact hk
    rw [e1, zfp_cuW z8, zfp_tail z8] at eM
    rw [eM, eC]
    exact ⟨t.1.df, Or.inl ⟨rfl, zFl_of t.2.1 t.2.2 hk _⟩⟩
  have j32 : ∀ X : zS2, ¬ X 0 8 = 0 → zm_readsCurve_J32 X (zm_goesWell X) = X := fun X hX => by
    unfold zm_readsCurve_J32
    rw [show zm_goesWell X = 0 from if_neg hX, if_pos (show (0 : Int) = 0 from rfl)]
  have cbad : zwd n T 1 a = 0 → C = (0, zfl 1 a Q) := fun z => by
    rw [hC]
    unfold zrc
    rw [← ha, if_pos z]
  rcases wd with ⟨w1, w2⟩ | ⟨w1, w2, w3, w4, w5, w6⟩
  · have z8 : ¬ S1 0 8 = 0 := by rw [w2.2.1]; decide
    have e1 : zcu8 S = S1 := by
      rw [e8]
      unfold zm_readsCurve_J8
      rw [show zm_goesWell S1 = 0 from if_neg z8, if_pos (show (0 : Int) = 0 from rfl)]
    exact fail S1 1 (by unfold zcu32; rw [e1]; exact j32 S1 z8) w2 (by decide) (cbad (Classical.byContradiction fun z => w1 ⟨(zwd_sm (by decide) z).1, hz⟩))
  · have pl := (zwe_r (n := n) (T := T) (a := a) (by omega)).2
    have own := zs_own (hU.fs w2) (by omega) (by omega) (by rw [w6, w5])
    rw [w5] at own
    have eJ : zcu8 S = if zown n T a = 2 then S1 else zm_faults S1 1 a := by
      rw [e8, show zm_goesWell S1 = 1 from if_pos w3]
      unfold zm_readsCurve_J8
      rw [if_neg (show ¬ (1 : Int) = 0 by decide), zlet_v, own, w5]
      by_cases c : zown n T a = 2
      · rw [if_pos c, if_pos c]
      · rw [if_neg c, if_neg c, zlet_v]
    by_cases c : zwd n T 1 a = 0
    · rw [if_neg (fun z => zown_2.1 z c)] at eJ
      have t := zs_flt w3 w2 1 a
      exact fail _ 1 (by unfold zcu32; rw [eJ]; exact j32 _ (by rw [t.2.1]; decide)) t (by decide) (cbad c)
    · rw [if_pos (zown_2.2 c)] at eJ
      have e32 : zcu32 S = if S1 0 15 = 6 then zm_faults S1 4 a else S1 := by
        unfold zcu32
        rw [eJ, show zm_goesWell S1 = 1 from if_pos w3]
        unfold zm_readsCurve_J32
        rw [if_neg (show ¬ (1 : Int) = 0 by decide), w5]
        by_cases c : S1 0 15 = 6
        · rw [if_pos c, if_pos c, zlet_v]
        · rw [if_neg c, if_neg c]
      have s115 : S1 0 15 = Q 0 4 := by rw [w2 0 15 (by omega), d1]
      by_cases c6 : 6 ≤ Q 0 4
      · rw [if_pos (show S1 0 15 = 6 by omega)] at e32
        exact fail _ 4 e32 (zs_flt w3 w2 4 a) (by decide) (by rw [hC]; unfold zrc; rw [← ha, if_neg c, if_pos c6])
      · rw [if_neg (show ¬ S1 0 15 = 6 by omega)] at e32
        have wl := (zwd_sm (by decide) c).2
        rw [zlen_all.2.1] at wl
        obtain ⟨y1, _, _, y4, y5⟩ := zsr_0 Q (a + 5) (Q 0 1) (Q 0 2)
        obtain ⟨Q1, hQ1⟩ : ∃ Q1, Q1 = zsr Q (a + 5) (Q 0 1) (Q 0 2) := ⟨_, rfl⟩
        rw [← hQ1] at y1 y4 y5
        have eC : C = zrc1 n T (zskS n T Q1) := by
          rw [hC]
          unfold zrc
          rw [← ha, if_neg c, if_neg c6, ← hQ1]
        have p1 : zPs n T p Q1 S1 := hps.mv w2 w3 (y4 3 (by decide)) (by rw [w6, y1, wl]) (by rw [y1]; omega)
        have dr1 : zDr p Q1 S1 := hds.fr ⟨y4 4 (by decide), fun k hk => y5 k (by omega)⟩ w2.pf
        obtain ⟨b, hb⟩ : ∃ b, b = zsk n T (Q1 0 0) := ⟨_, rfl⟩
        have hw : (97 ≤ zby n T b ∧ zby n T b ≤ 122) → zop n T b := fun s => by
          rw [hb] at s ⊢
          by_cases e : zsk n T (Q1 0 0) = Q1 0 0
          · rw [e, y1, ← wl] at s
            exact absurd s (zwe_stop (by omega))
          · exact zsk_bl e
        have rb := zsk_r (T := T) p1.2.2.2.1
        rw [← hb, y1] at rb
        have nm := zs_name p1 dr1 (by rw [y4 4 (by decide)]; omega) hb hw
        have eW : (zm_readsCurve_W65 (zm_name S1).1 (zm_name S1).2 8 0 (zm_name S1).2).2 = zcuW S1 := by unfold zcuW; rfl
        rw [eW] at nm
        rw [e32] at eM
        obtain ⟨N, hN⟩ : ∃ N, N = zm_name S1 := ⟨_, rfl⟩
        obtain ⟨X, hX⟩ : ∃ X, X = zcuW S1 := ⟨_, rfl⟩
        rw [← hN, ← hX] at nm eM
        have zb : zskS n T Q1 0 0 = b := by
          rw [hb]
          exact (zsr_0 Q1 _ _ _).1
        obtain ⟨R, hR⟩ : ∃ R, R = zrnm n T (zskS n T Q1) := ⟨_, rfl⟩
        have eC1 : C = if R.1 = 0 then (0, R.2) else if (zxp n T 61 R.2).1 = 0 then (0, (zxp n T 61 R.2).2) else zrc2 n T b (zxp n T 61 R.2).2 := by
          rw [eC]
          unfold zrc1
          rw [← hR, zb]
        rw [← hR] at nm
        obtain ⟨n1, ⟨r1, r2⟩ | ⟨r1, r2, r3, r4, r5, r6, r7, r8, r9, r10⟩⟩ := nm
        · rw [if_pos r1] at eC1
          rw [zfp_tail r2.1] at eM
          rw [eM, eC1]
          exact ⟨w2.df.tr n1.df, Or.inl ⟨rfl, r2⟩⟩
        · rw [if_neg (show ¬ R.1 = 0 by omega)] at eC1
          have dr2 : zDr p R.2 X := dr1.nm (r5 4 (by decide)) r6 r7 n1
          have x1 := zs_xp r2 (c := 61) (by decide) (by decide) (by decide)
          obtain ⟨S3, hS3⟩ : ∃ S3, S3 = zm_mark X 61 := ⟨_, rfl⟩
          obtain ⟨Q3, hQ3⟩ : ∃ Q3, Q3 = zxp n T 61 R.2 := ⟨_, rfl⟩
          rw [← hS3, ← hQ3] at x1
          rw [← hQ3] at eC1
          obtain ⟨m1, ⟨q1, q2⟩ | ⟨q1, q2, q3, q4, q5, q6, q7⟩⟩ := x1
          · rw [if_pos q1] at eC1
            have e61 : zcuM X = S3 := by
              rw [hS3]
              exact zfp_cuM (by rw [← hS3]; exact q2.1)
            have e59 := zfp_mark q2.1 59
            rw [e61, zfp_cuT (by rw [e59]; exact q2.1), e59] at eM
            rw [eM, eC1]
            exact ⟨(w2.df.tr n1.df).tr m1.df, Or.inl ⟨rfl, q2⟩⟩
          · rw [if_neg (show ¬ Q3.1 = 0 by omega)] at eC1
            have em : zcuM X = zm_readsSum S3 := by
              unfold zcuM zm_readsCurve_J115
              rw [← hS3, show zm_goesWell S3 = 1 from if_pos q2.2.1, if_neg (show ¬ (1 : Int) = 0 by decide), zlet_v]
            rw [em] at eM
            have dr3 : zDr p Q3.2 S3 := dr2.fr ⟨q6 4 (by decide), fun k hk => q7 k (by omega)⟩ m1.pf
            have su := zp_reads hpr q2 q4
            obtain ⟨S4, hS4⟩ : ∃ S4, S4 = zm_readsSum S3 := ⟨_, rfl⟩
            obtain ⟨Q4, hQ4⟩ : ∃ Q4, Q4 = zrs n T Q3.2 := ⟨_, rfl⟩
            rw [← hS4, ← hQ4] at su
            rw [← hS4] at eM
            have eC2 : C = if Q4.1 = 0 then (0, Q4.2) else if (zxp n T 59 Q4.2).1 = 0 then (0, (zxp n T 59 Q4.2).2) else zrc3 b (zxp n T 59 Q4.2).2 := by
              rw [eC1]
              unfold zrc2
              rw [← hQ4]
            have df3 : zDf S S3 := (w2.df.tr n1.df).tr m1.df
            rcases su with ⟨u1, u2, u3⟩ | ⟨u1, u2, u3, u4, u5, u6, u7, u8⟩
            · rw [if_pos u1] at eC2
              have e59 := zfp_mark u2.1 59
              rw [zfp_cuT (by rw [e59]; exact u2.1), e59] at eM
              rw [eM, eC2]
              exact ⟨df3.tr u3.df, Or.inl ⟨rfl, u2⟩⟩
            · rw [if_neg (show ¬ Q4.1 = 0 by omega)] at eC2
              have dr4 := dr3.fr u7 u8
              have x2 := zs_xp u2 (c := 59) (by decide) (by decide) (by decide)
              obtain ⟨S5, hS5⟩ : ∃ S5, S5 = zm_mark S4 59 := ⟨_, rfl⟩
              obtain ⟨Q5, hQ5⟩ : ∃ Q5, Q5 = zxp n T 59 Q4.2 := ⟨_, rfl⟩
              rw [← hS5, ← hQ5] at x2
              rw [← hQ5] at eC2
              obtain ⟨k1, ⟨v1, v2⟩ | ⟨v1, v2, v3, v4, v5, v6, v7⟩⟩ := x2
              · rw [if_pos v1] at eC2
                rw [zfp_cuT (by rw [← hS5]; exact v2.1), ← hS5] at eM
                rw [eM, eC2]
                exact ⟨(df3.tr u8.df).tr k1.df, Or.inl ⟨rfl, v2⟩⟩
              · rw [if_neg (show ¬ Q5.1 = 0 by omega)] at eC2
                have eT : zcuT N.1 N.2 S4 = zcuE N.1 N.2 S5 := by
                  unfold zcuT
                  rw [← hS5, if_neg (show ¬ zm_goesWell S5 = 0 by rw [show zm_goesWell S5 = 1 from if_pos v2.2.1]; decide)]
                rw [eT] at eM
                have c4 : Q5.2 0 4 = Q 0 4 := by rw [v6 4 (by decide), u7.1, q6 4 (by decide), r5 4 (by decide), y4 4 (by decide)]
                have c1 : Q5.2 1 = R.2 1 := by rw [v7 1 (by decide), u7.2 1 (Or.inl rfl), q7 1 (by decide)]
                have q14 : Q1 0 4 = Q 0 4 := y4 4 (by decide)
                have g20 := v7 20 (by decide)
                have en := zp_end v2 (dr4.fr ⟨v6 4 (by decide), fun k hk => v7 k (by omega)⟩ k1.pf) (by omega) (by rw [g20]; exact u4.fr (fun i _ _ => k1 3 i (by omega))) (by rw [g20]; exact u5) (by rw [g20]; exact u6) ⟨r9, r10⟩ (fun i hi => by rw [c4, c1, ← q14]; exact r8 i hi) r4
                rw [← eM, ← eC2] at en
                have df5 : zDf S S5 := (df3.tr u8.df).tr k1.df
                obtain ⟨en1, ⟨t1, t2⟩ | ⟨t1, t2, t3, t4⟩⟩ := en
                · exact ⟨df5.tr en1, Or.inl ⟨t1, t2⟩⟩
                · refine ⟨df5.tr en1, Or.inr ⟨t1, t2, ?_, ?_, t4⟩⟩
                  · rw [t3]
                    omega
                  · rw [t3]
                    exact v4
end ZJl
