section ZJo
theorem zpr_all : ∀ k : Nat, k < 32 → (zm_isPrime k = 0 ↔ zprm k = 0) := by decide +kernel
theorem zpr_all2 : ∀ k : Nat, k < 32 → (zprm k = 0 ∨ ((k : Int) = 2 ∨ (k : Int) = 3 ∨ (k : Int) = 5 ∨ (k : Int) = 7 ∨ (k : Int) = 11 ∨ (k : Int) = 13 ∨ (k : Int) = 17 ∨ (k : Int) = 19 ∨ (k : Int) = 23 ∨ (k : Int) = 29 ∨ (k : Int) = 31)) := by decide +kernel
theorem zs_prime {v : Int} (h : 0 ≤ v) : zm_isPrime v = 0 ↔ zprm v = 0 := by
  by_cases c : v ≤ 31
  · have := zpr_all v.toNat (by omega)
    rw [show ((v.toNat : Nat) : Int) = v by omega] at this
    exact this
  · have e : zm_isPrime v = 0 := by
      unfold zm_isPrime
      rw [if_neg (show ¬ v < 2 by omega), if_neg c]
    have e2 : zprm v = 0 := Classical.byContradiction fun z => by
      have := zprm_rng z
      omega
    exact ⟨fun _ => e2, fun _ => e⟩
theorem zprm_Pr {v : Int} (h : ¬ zprm v = 0) : zPr v := by
  have r := zprm_rng h
  have := zpr_all2 v.toNat (by omega)
  rw [show ((v.toNat : Nat) : Int) = v by omega] at this
  rcases this with z | z
  · exact absurd z h
  · exact z
/-- what the FIELD may change -/
def zKf (S S' : zS2) : Prop := ∀ a i : Nat, ¬ (a = 0 ∧ 6 ≤ i ∧ i ≤ 10) → S' a i = S a i
theorem zFs.kf {S S' : zS2} (h : zFs S S') : zKf S S' := fun a i h1 => h a i (by omega)
theorem zKf.tr {S S' S'' : zS2} (h : zKf S S') (h2 : zKf S' S'') : zKf S S'' := fun a i q => (h2 a i q).trans (h a i q)
theorem zs_fieldE (S : zS2) : zm_readsField S = if (zm_comes S).1 = 1 then zm_mark (zm_readsField_J45 (zm_number (zm_word (zm_comes S).2)).1 (zm_readsField_J22 (zm_number (zm_word (zm_comes S).2)).1 (zm_number (zm_word (zm_comes S).2)).2 (zm_goesWell (zm_number (zm_word (zm_comes S).2)).2)) (zm_goesWell (zm_readsField_J22 (zm_number (zm_word (zm_comes S).2)).1 (zm_number (zm_word (zm_comes S).2)).2 (zm_goesWell (zm_number (zm_word (zm_comes S).2)).2)))) 59 else (zm_comes S).2 := by
  unfold zm_readsField
  generalize zm_comes = fC
  generalize zm_word = fW
  generalize zm_number = fN
  generalize zm_mark = fM
  generalize zm_readsField_J45 = fJ
  generalize zm_readsField_J22 = fK
  simp only [zlet_v]
theorem zsk_not {n : Int} {T : Nat → Int} {x : Int} (h : ¬ (zby n T x = 10 ∨ zby n T x = 32)) : zsk n T x = x := by
  unfold zsk
  cases hk : (n - x).toNat with
  | zero => rfl
  | succ k =>
    simp only [zskF]
    rw [if_neg h]
/-- the FIELD, both -/
def zFd (n : Int) (T : Nat → Int) (Q S : zS2) (C : Int × zS2) (M : zS2) : Prop := zKf S M ∧ ((C.1 = 0 ∧ zFl C.2 M) ∨ (C.1 = 1 ∧ ∃ p, zPr p ∧ zPs n T p C.2 M ∧ zop n T (C.2 0 0) ∧ C.2 0 4 = Q 0 4))
theorem zp_field {n : Int} {T : Nat → Int} {Q S : zS2} (h : zPs n T 7 Q S) (hz : zop n T (Q 0 0)) : zFd n T Q S (if zwd n T 0 (zskS n T Q 0 0) = 0 then (1, zskS n T Q) else zrfd n T (zskS n T Q)) (zm_readsField S) := by
  have hps := h
  obtain ⟨hU, h8, h6, hr, hq3, h10⟩ := h
  have eM := zs_fieldE S
  obtain ⟨z, S1, e1, c1, c2, c3, c4, c5⟩ := zs_comes hU hps.pos h8
  rw [h6] at c4 c5
  obtain ⟨a, ha⟩ : ∃ a, a = zsk n T (Q 0 0) := ⟨_, rfl⟩
  have ra := zsk_r (T := T) hr
  have ia := zsk_id (T := T) hr
  have za' := zop_sk hz
  rw [← ha] at c4 c5 ra ia za'
  obtain ⟨y1, _, _, y4, y5⟩ := zsr_0 Q (zsk n T (Q 0 0)) (Q 0 1) (Q 0 2)
  have eqa : zskS n T Q = zsr Q (zsk n T (Q 0 0)) (Q 0 1) (Q 0 2) := rfl
  obtain ⟨Qa, hQa⟩ : ∃ Qa, Qa = zskS n T Q := ⟨_, rfl⟩
  rw [← eqa, ← hQa] at y1 y4 y5
  rw [← ha] at y1
  rw [← hQa, y1]
  rw [e1] at eM
  dsimp only at eM
  obtain ⟨M, hM⟩ : ∃ M, M = zm_readsField S := ⟨_, rfl⟩
  rw [← hM] at eM ⊢
  have pa : zPs n T 7 Qa S1 := hps.mv c1 c2 (y4 3 (by decide)) (by rw [c4, y1]) (by rw [y1]; omega)
  by_cases w : zwd n T 0 a = 0
  · have hz1 : ¬ z = 1 := fun q => by
      rcases c5 with ⟨_, c⟩ | ⟨_, c⟩
      · omega
      · exact zown_1.1 (c.symm.trans q) w
    rw [if_neg hz1] at eM
    rw [if_pos w, eM]
    exact ⟨c1.kf, Or.inr ⟨rfl, 7, by unfold zPr; omega, pa, by show zop n T (Qa 0 0); rw [y1]; exact za', y4 4 (by decide)⟩⟩
  · have wh : zwdh n T a := ⟨(zwd_sm (by decide) w).1, za'⟩
    have wl := (zwd_sm (by decide) w).2
    rw [zlen_all.1] at wl
    have hz1 : z = 1 := by
      rcases c5 with ⟨c, _⟩ | ⟨_, c⟩
      · exact absurd wh c
      · rw [c]; exact zown_1.2 w
    rw [if_pos hz1] at eM
    rw [if_neg w]
    have pl := (zwe_r (n := n) (T := T) (a := a) (by omega)).2
    -- the word
    have wd := zs_word pa.1 pa.pos c2
    rw [c4, ia] at wd
    obtain ⟨S2, hS2⟩ : ∃ S2, S2 = zm_word S1 := ⟨_, rfl⟩
    rw [← hS2] at wd eM
    rcases wd with ⟨w1, _⟩ | ⟨_, w2, w3, w4, w5, w6⟩
    · exact absurd wh w1
    · have f2 := c1.tr w2
      have hU2 := hU.fs f2
      have s26 : S2 0 6 = a + 5 := by rw [w6, wl]
      have nb := zs_number hU2 (by omega) w3
      rw [s26] at nb
      obtain ⟨x, hx⟩ : ∃ x, x = zsk n T (a + 5) := ⟨_, rfl⟩
      have rx := zsk_r (n := n) (T := T) (a := a + 5) (by omega)
      rw [← hx] at nb rx
      obtain ⟨N, hN⟩ : ∃ N, N = zm_number S2 := ⟨_, rfl⟩
      rw [← hN] at nb eM
      obtain ⟨C, hC⟩ : ∃ C, C = zrfd n T Qa := ⟨_, rfl⟩
      rw [← hC]
      obtain ⟨v1, _, _, v4, v5⟩ := zsr_0 Qa (a + 5) (Qa 0 1) (Qa 0 2)
      obtain ⟨Q5, hQ5⟩ : ∃ Q5, Q5 = zsr Qa (a + 5) (Qa 0 1) (Qa 0 2) := ⟨_, rfl⟩
      rw [← hQ5] at v1 v4 v5
      have eC : C = if zdig (zby n T (a + 5)) = 0 then zrfd1 n T (zskS n T Q5) else (0, zfl 1 (a + 5) Q5) := by
        rw [hC]
        unfold zrfd
        rw [y1, ← hQ5]
        unfold zrfd0
        rw [v1]
      have stop : ∀ (SJ : zS2) (kd : Int) (Qx : zS2), zm_readsField_J22 N.1 N.2 (zm_goesWell N.2) = SJ → zft S2 SJ kd x → kd ≠ 0 → C = (0, zfl kd x Qx) → zFd n T Q S C M := fun SJ kd Qx e t hk ec => by
        have z8 : ¬ SJ 0 8 = 0 := by rw [t.2.1]; exact hk
        have ej : zm_readsField_J45 N.1 SJ (zm_goesWell SJ) = SJ := by
          unfold zm_readsField_J45
          rw [show zm_goesWell SJ = 0 from if_neg z8, if_pos (show (0 : Int) = 0 from rfl)]
        rw [e, ej, zfp_mark z8] at eM
        rw [eM, ec]
        exact ⟨(f2.tr t.1).kf, Or.inl ⟨rfl, zFl_of t.2.1 t.2.2 hk _⟩⟩
      have j22 : ¬ N.2 0 8 = 0 → zm_readsField_J22 N.1 N.2 (zm_goesWell N.2) = N.2 := fun q => by
        unfold zm_readsField_J22
        rw [show zm_goesWell N.2 = 0 from if_neg q, if_pos (show (0 : Int) = 0 from rfl)]
      by_cases d : zdig (zby n T (a + 5)) = 0
      · rw [if_pos d] at eC
        have q0 : zskS n T Q5 0 0 = x := by
          rw [hx, ← v1]
          exact (zsr_0 Q5 _ _ _).1
        obtain ⟨_, _, _, u4, u5⟩ := zsr_0 Q5 (zsk n T (Q5 0 0)) (Q5 0 1) (Q5 0 2)
        have eq6 : zskS n T Q5 = zsr Q5 (zsk n T (Q5 0 0)) (Q5 0 1) (Q5 0 2) := rfl
        obtain ⟨Q6, hQ6⟩ : ∃ Q6, Q6 = zskS n T Q5 := ⟨_, rfl⟩
        rw [← eq6, ← hQ6] at u4 u5
        rw [← hQ6] at eC q0
        by_cases dx : zdig (zby n T x) = 0
        · rcases nb with ⟨_, t⟩ | ⟨t, _⟩
          · refine stop N.2 1 Q6 (j22 (by rw [t.2.1]; decide)) t (by decide) ?_
            rw [eC]
            unfold zrfd1
            rw [q0, if_pos dx]
          · exact absurd dx t.1
        · have hzx : zop n T x := by
            rw [hx]
            exact zsk_bl (fun q => dx (by rw [hx, q]; exact d))
          rcases nb with ⟨t, _⟩ | ⟨_, t, r1, r2⟩
          · exact absurd ⟨dx, hzx⟩ t
          · obtain ⟨v, hv⟩ : ∃ v, v = zrnV (zrnA n T x) := ⟨_, rfl⟩
            obtain ⟨o1, _, _, o4, o5⟩ := zsr_0 Q6 (zrnA n T x).1 (Q6 0 1) (Q6 0 2)
            obtain ⟨Q7, hQ7⟩ : ∃ Q7, Q7 = zsr Q6 (zrnA n T x).1 (Q6 0 1) (Q6 0 2) := ⟨_, rfl⟩
            rw [← hQ7] at o1 o4 o5
            have eC2 : C = if zprm v = 0 then (0, zfl 2 x Q7) else zxp n T 59 (zsd Q7 v (Q7 0 4)) := by
              rw [eC]
              unfold zrfd1
              rw [q0, if_neg dx]
              unfold zrn
              rw [q0, ← hv, ← hQ7]
              rfl
            rw [← hv] at t
            rcases t with ⟨t1, t2⟩ | ⟨t1, t2, t3, t4, t5, t6, t7⟩
            · rw [if_pos (Classical.byContradiction fun q => by have := zprm_rng q; omega)] at eC2
              exact stop N.2 2 Q7 (j22 (by rw [t2.2.1]; decide)) t2 (by decide) eC2
            · have e22 : zm_readsField_J22 N.1 N.2 (zm_goesWell N.2) = if zprm v = 0 then zm_faults N.2 2 x else N.2 := by
                unfold zm_readsField_J22
                rw [show zm_goesWell N.2 = 1 from if_pos t4, if_neg (show ¬ (1 : Int) = 0 by decide), zlet_v, t2, t6]
                by_cases q : zprm v = 0
                · rw [if_pos ((zs_prime t1).2 q), if_pos q, zlet_v]
                · rw [if_neg (fun r => q ((zs_prime t1).1 r)), if_neg q]
              by_cases q : zprm v = 0
              · rw [if_pos q] at eC2 e22
                have tf := zs_flt t4 t3 2 x
                exact stop _ 2 Q7 e22 tf (by decide) eC2
              · rw [if_neg q] at eC2 e22
                have hpr := zprm_Pr q
                obtain ⟨S8, hS8⟩ : ∃ S8, S8 = za N.2 0 10 v := ⟨_, rfl⟩
                have e45 : zm_readsField_J45 N.1 N.2 (zm_goesWell N.2) = S8 := by
                  unfold zm_readsField_J45
                  rw [show zm_goesWell N.2 = 1 from if_pos t4, if_neg (show ¬ (1 : Int) = 0 by decide), zlet_v, t2, hS8]
                rw [e22, e45] at eM
                have f8 : ∀ k i : Nat, ¬ (k = 0 ∧ i = 10) → S8 k i = N.2 k i := fun k i h1 => by rw [hS8, za_ne h1]
                obtain ⟨g1, g2, g3, g4⟩ := zsd_0 Q7 v (Q7 0 4)
                obtain ⟨Q8, hQ8⟩ : ∃ Q8, Q8 = zsd Q7 v (Q7 0 4) := ⟨_, rfl⟩
                rw [← hQ8] at g1 g2 g3 g4 eC2
                have q80 : Q8 0 0 = (zrnA n T x).1 := by rw [g3 0 (by decide) (by decide), o1]
                have p8 : zPs n T v Q8 S8 := ⟨(hU2.fs t3).same (f8 0 5 (by omega)) (fun k => f8 1 k (by omega)), by rw [f8 0 8 (by omega), t4], by rw [f8 0 6 (by omega), t7, q80], by rw [q80]; omega, g1, by rw [hS8, za_same]⟩
                have xp := zs_xp p8 (c := 59) (by decide) (by decide) (by decide)
                rw [← eM, ← eC2] at xp
                have k8 : zKf S S8 := (f2.tr t3).kf.tr (fun k i h1 => f8 k i (by omega))
                have c40 : Q8 0 4 = Q 0 4 := by rw [g2, o4 4 (by decide), u4 4 (by decide), v4 4 (by decide), y4 4 (by decide)]
                obtain ⟨x1, ⟨x2, x3⟩ | ⟨x2, x3, x4, x5, x6, x7, x8⟩⟩ := xp
                · exact ⟨k8.tr x1.kf, Or.inl ⟨x2, x3⟩⟩
                · exact ⟨k8.tr x1.kf, Or.inr ⟨x2, v, hpr, x3, x5, by rw [x7 4 (by decide), c40]⟩⟩
      · rw [if_neg d] at eC
        have d2 := zdig_1 d
        have ex : x = a + 5 := by
          rw [hx]
          exact zsk_not (by omega)
        have lt := zwe_low (n := n) (T := T) (a := a + 4) (n - a).toNat a (by omega) (by omega) (show a + 4 < zwe n T a by omega)
        rcases nb with ⟨_, t⟩ | ⟨t, _⟩
        · exact stop N.2 1 Q5 (j22 (by rw [t.2.1]; decide)) t (by decide) (by rw [eC, ex])
        · have := t.2.1
          rw [ex, show a + 5 - 1 = a + 4 by omega] at this
          exact absurd lt this
theorem zs_loopE {S : zS2} (h8 : S 0 8 = 0) (fu : Nat) : zm_curves_W48 (fu + 1) S = if (zm_here S).1 = -1 then (zm_here S).2 else zm_curves_W48 fu (zm_readsCurve (zm_here S).2) := by
  have e0 : zm_goesWell S = 1 := if_pos h8
  simp only [zm_curves_W48]
  generalize zm_here = fH
  generalize zm_readsCurve = fC
  rw [e0, zlet_v, if_neg (show ¬ (1 : Int) = 0 by decide), zlet_v]
  by_cases c : (fH S).1 = -1
  · rw [if_pos c, if_pos c]
  · rw [if_neg c, if_neg c, zlet_v]
theorem zfp_loop {S : zS2} (h8 : ¬ S 0 8 = 0) (fu : Nat) : zm_curves_W48 fu S = S := by
  have e0 : zm_goesWell S = 0 := if_neg h8
  cases fu with
  | zero => rfl
  | succ k =>
    simp only [zm_curves_W48]
    generalize zm_here = fH
    generalize zm_readsCurve = fC
    rw [e0, zlet_v, if_pos rfl]
/-- all CURVES, both -/
def zLo (n : Int) (T : Nat → Int) (p : Int) (S : zS2) (C : Int × zS2) (M : zS2) : Prop := zDf S M ∧ ((C.1 = 0 ∧ zFl C.2 M) ∨ (C.1 = 1 ∧ zPs n T p C.2 M ∧ zDr p C.2 M))
theorem zp_loop {n p : Int} {T : Nat → Int} (hpr : zPr p) (hT : ∀ k : Nat, 0 ≤ T k) : ∀ (m fu : Nat) (Q S : zS2), zPs n T p Q S → zDr p Q S → zop n T (Q 0 0) → n - Q 0 0 < m → n - Q 0 0 < fu → zLo n T p S (zrtF n T m Q) (zm_curves_W48 fu S)
  | 0, fu, Q, S, h, hd, hz, hm, hf => by
    have := h.2.2.2.1
    omega
  | m + 1, fu, Q, S, h, hd, hz, hm, hf => by
    have hr := h.2.2.2.1
    have n1 := h.1.1
    obtain ⟨fu, rfl⟩ : ∃ k, fu = k + 1 := ⟨fu - 1, by omega⟩
    have eM := zs_loopE h.2.1 fu
    have eC := zrtF_s n T m Q
    have rk := zsk_r (T := T) hr
    have ia := zsk_id (T := T) hr
    have za' := zop_sk hz
    rw [zs_here h.1 h.pos, h.2.2.1] at eM
    obtain ⟨a, ha⟩ : ∃ a, a = zsk n T (Q 0 0) := ⟨_, rfl⟩
    rw [← ha] at eM rk ia za'
    dsimp only at eM
    obtain ⟨S1, hS1⟩ : ∃ S1, S1 = za S 0 6 a := ⟨_, rfl⟩
    rw [← hS1] at eM
    have f1 : zFs S S1 := by rw [hS1]; exact zFs.rf.za (by omega) _
    obtain ⟨y1, _, _, y4, y5⟩ := zsr_0 Q (zsk n T (Q 0 0)) (Q 0 1) (Q 0 2)
    have eqa : zskS n T Q = zsr Q (zsk n T (Q 0 0)) (Q 0 1) (Q 0 2) := rfl
    obtain ⟨Qa, hQa⟩ : ∃ Qa, Qa = zskS n T Q := ⟨_, rfl⟩
    rw [← eqa, ← hQa] at y1 y4 y5
    rw [← ha] at y1
    rw [← hQa, y1] at eC
    have pa : zPs n T p Qa S1 := h.mv f1 (by rw [hS1, za_ne (by omega), h.2.1]) (y4 3 (by decide)) (by rw [hS1, za_same, y1]) (by rw [y1]; omega)
    have da : zDr p Qa S1 := hd.fr ⟨y4 4 (by decide), fun k hk => y5 k (by omega)⟩ f1.pf
    rw [eM, eC]
    by_cases c : n ≤ a
    · rw [if_pos c, if_pos (zby_n c)]
      exact ⟨f1.df, Or.inr ⟨rfl, pa, da⟩⟩
    · have nb : ¬ zby n T a = -1 := by
        unfold zby
        rw [if_pos (by omega)]
        have := hT a.toNat
        omega
      rw [if_neg c, if_neg nb]
      have cu := zp_curve hpr pa da (by rw [y1]; exact za') (by rw [y1]; exact ia)
      obtain ⟨R, hR⟩ : ∃ R, R = zrc n T Qa := ⟨_, rfl⟩
      obtain ⟨S2, hS2⟩ : ∃ S2, S2 = zm_readsCurve S1 := ⟨_, rfl⟩
      rw [← hR, ← hS2] at cu ⊢
      obtain ⟨k1, ⟨k2, k3⟩ | ⟨k2, k3, k4, k5, k6⟩⟩ := cu
      · rw [if_pos k2, zfp_loop k3.1]
        exact ⟨f1.df.tr k1, Or.inl ⟨rfl, k3⟩⟩
      · rw [if_neg (show ¬ R.1 = 0 by omega)]
        rw [y1] at k4
        obtain ⟨i1, i2⟩ := zp_loop hpr hT m fu R.2 S2 k3 k6 k5 (by omega) (by omega)
        exact ⟨(f1.df.tr k1).tr i1, i2⟩
end ZJo
