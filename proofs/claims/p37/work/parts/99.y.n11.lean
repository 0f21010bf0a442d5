section ZLz
/-- a list of letters stands at k -/
def zSd (n : Int) (T : Nat → Int) (k : Int) (l : List Int) : Prop := ∀ i : Nat, i < l.length → zby n T (k + i) = zof l i
theorem zSd.c {n : Int} {T : Nat → Int} {k x : Int} {l : List Int} (h : zSd n T k (x :: l)) : zby n T k = x ∧ zSd n T (k + 1) l := by
  refine ⟨?_, fun i hi => ?_⟩
  · have z := h 0 (Nat.succ_pos _)
    rw [show k + ((0 : Nat) : Int) = k by omega] at z
    exact z
  · have z := h (i + 1) (Nat.succ_lt_succ hi)
    rw [show k + ((i + 1 : Nat) : Int) = k + 1 + i by omega] at z
    exact z
theorem zSd.app {n : Int} {T : Nat → Int} {k : Int} {l m : List Int} (h : zSd n T k (l ++ m)) : zSd n T k l ∧ zSd n T (k + l.length) m := by
  refine ⟨fun i hi => ?_, fun i hi => ?_⟩
  · have z := h i (by rw [List.length_append]; omega)
    unfold zof at z ⊢
    rw [List.getD_eq_getElem?_getD, List.getElem?_append_left hi, ← List.getD_eq_getElem?_getD] at z
    exact z
  · have z := h (l.length + i) (by rw [List.length_append]; omega)
    rw [show k + ((l.length + i : Nat) : Int) = k + l.length + i by omega] at z
    unfold zof at z ⊢
    rw [List.getD_eq_getElem?_getD, List.getElem?_append_right (by omega), ← List.getD_eq_getElem?_getD, show l.length + i - l.length = i by omega] at z
    exact z
/-- the TERMS that are still to come -/
def zrr (d : Nat → Nat → Int) : Nat → List Int
  | 0 => []
  | m + 1 => zte d ((24 - m) / 5) ((24 - m) % 5) ++ zrr d m
theorem zts_rr (d : Nat → Nat → Int) : ∀ m, m ≤ 25 → zts d 25 = zts d (25 - m) ++ zrr d m
  | 0, _ => (List.append_nil _).symm
  | m + 1, hm => by
    rw [zts_rr d m (by omega), show 25 - m = (24 - m) + 1 by omega, show 25 - (m + 1) = 24 - m by omega]
    show zts d (24 - m) ++ zte d ((24 - m) / 5) ((24 - m) % 5) ++ zrr d m = zts d (24 - m) ++ (zte d ((24 - m) / 5) ((24 - m) % 5) ++ zrr d m)
    rw [List.append_assoc]
theorem zrr_hd {d : Nat → Nat → Int} {n : Int} {T : Nat → Int} {X : List Int} : ∀ (m : Nat) (k : Int), zSd n T k (zrr d m ++ 59 :: X) → zby n T k = 43 ∨ zby n T k = 59
  | 0, k, h => Or.inr (zSd.c h).1
  | m + 1, k, h => by
    unfold zrr zte at h
    split at h
    · exact zrr_hd m k h
    · exact Or.inl (zSd.c h).1
def zPm {K : Type} [Lean.Grind.CommRing K] (φ : Int → K) (d : Nat → Nat → Int) : Nat → Nat → Nat → K
  | 0 => fun _ _ => 0
  | m + 1 => fun i j => kc_t (φ (d ((24 - m) / 5) ((24 - m) % 5))) ((24 - m) / 5) ((24 - m) % 5) i j + zPm φ d m i j
theorem zPm_at {K : Type} [Lean.Grind.CommRing K] {φ : Int → K} (d : Nat → Nat → Int) {i j : Nat} (hi : i < 5) (hj : j < 5) : ∀ m, m ≤ 25 → zPm φ d m i j = if 25 - m ≤ 5 * i + j then φ (d i j) else 0
  | 0, _ => by
    rw [if_neg (by omega)]
    rfl
  | m + 1, hm => by
    show kc_t _ _ _ i j + zPm φ d m i j = _
    rw [zPm_at d hi hj m (by omega)]
    unfold kc_t
    by_cases c : 5 * i + j = 24 - m
    · have e1 : i = (24 - m) / 5 := by omega
      have e2 : j = (24 - m) % 5 := by omega
      rw [if_pos ⟨e1, e2⟩, if_neg (by omega), if_pos (by omega), ← e1, ← e2]
      grind
    · rw [if_neg (fun q => c (by omega))]
      by_cases c2 : 25 - m ≤ 5 * i + j
      · rw [if_pos c2, if_pos (by omega)]
        grind
      · rw [if_neg c2, if_neg (by omega)]
        grind
noncomputable def zgoo (n : Int) (T : Nat → Int) (f : Nat) (B : Nat → Nat → Int) : Int × (Nat → Nat → Int) := if (zrs2 n T 0 B).1 = 0 then ((zrs2 n T 0 B).2.1, (zrs2 n T 0 B).2.2.2) else zrsF n T f (zrs2 n T 0 B).2.2.1 (zrs2 n T 0 B).2.2.2
theorem zrsF_go {n : Int} {T : Nat → Int} {f : Nat} {S B : Nat → Nat → Int} (e : zrs0 n T 0 S = zrs2 n T 0 B) : zrsF n T (f + 1) 0 S = zgoo n T f B := by
  rw [zrsF_s, e]
  rfl
theorem zgoo_plus {n : Int} {T : Nat → Int} {f : Nat} {B : Nat → Nat → Int} (t : zby n T (B 0 0) = 43) : zgoo n T f B = zrsF n T f 0 (zsr (zClo B) (B 0 0 + 1) (B 0 1) (B 0 2)) := by
  unfold zgoo
  rw [zG_plus t]
  exact if_neg (show ¬ (1 : Int) = 0 by decide)
theorem zgoo_star {n : Int} {T : Nat → Int} {f : Nat} {B : Nat → Nat → Int} (t : zby n T (B 0 0) = 42) : zgoo n T f B = zrsF n T f 0 (zsr B (B 0 0 + 1) (B 0 1) (B 0 2)) := by
  unfold zgoo
  rw [zG_star t]
  exact if_neg (show ¬ (1 : Int) = 0 by decide)
theorem zgoo_end {n : Int} {T : Nat → Int} {f : Nat} {B : Nat → Nat → Int} (t : zby n T (B 0 0) = 59) : zgoo n T f B = (1, zClo B) := by
  unfold zgoo
  rw [zG_end t]
  exact if_pos rfl
def zKs (S R : Nat → Nat → Int) : Prop := ∀ j, j ≠ 0 → j ≠ 2 → j ≠ 4 → j ≠ 5 → j ≠ 6 → j ≠ 20 → j ≠ 70 → R j = S j
theorem zsumK {K : Type} [Lean.Grind.CommRing K] {p : Int} {φ : Int → K} (h : zKp K p φ) (hp : 1 < p ∧ p ≤ 7) {d : Nat → Nat → Int} (hd : ∀ a b : Nat, 0 ≤ d a b ∧ d a b < p) (hz : ∀ a b : Nat, (4 : Int) < (a : Int) + b → d a b = 0) {n : Int} {T : Nat → Int} {X : List Int} : ∀ (m : Nat), m ≤ 25 → ∀ (f : Nat) (B : Nat → Nat → Int) (F : Nat → Nat → K), (zrr d m).length ≤ f → B 0 3 = p → B 2 0 = 0 → zcan p (B 20) → zflt (B 20) → zq φ (B 20) = F → zSd n T (B 0 0) (zrr d m ++ 59 :: X) →
    ∃ R, zgoo n T f B = (1, R) ∧ R 0 0 = B 0 0 + (zrr d m).length ∧ R 0 3 = p ∧ R 0 4 = B 0 4 ∧ zcan p (R 20) ∧ zflt (R 20) ∧ zq φ (R 20) = (fun i j => F i j + zq φ (B 70) i j + zPm φ d m i j) ∧ zKs B R
  | 0, _, f, B, F, _, h3, s0, c2, f2, q2, ht => by
    obtain ⟨y1, y2, y3, y4, y5⟩ := zClo_q h (by omega) h3 s0 c2 f2 q2
    refine ⟨zClo B, zgoo_end (zSd.c ht).1, ?_, ?_, zClo_0 B 4, y2, y3, ?_, fun j j0 j2 j4 j5 j6 j20 j70 => zClo_k B j2 j20 j70⟩
    · rw [zClo_0]
      exact (Int.add_zero _).symm
    · rw [zClo_0]
      exact h3
    · rw [y1]
      funext i j
      show _ = F i j + zq φ (B 70) i j + (0 : K)
      grind
  | m + 1, hm, f, B, F, hf, h3, s0, c2, f2, q2, ht => by
    obtain ⟨a, ea⟩ : ∃ a, a = (24 - m) / 5 := ⟨_, rfl⟩
    obtain ⟨b, eb⟩ : ∃ b, b = (24 - m) % 5 := ⟨_, rfl⟩
    have er : zrr d (m + 1) = zte d a b ++ zrr d m := by rw [ea, eb]; rfl
    have ep : zPm φ d (m + 1) = fun i j => kc_t (φ (d a b)) a b i j + zPm φ d m i j := by rw [ea, eb]; rfl
    rw [er] at ht hf ⊢
    by_cases c : d a b = 0
    · have e0 : zte d a b = [] := if_pos c
      rw [e0] at ht hf ⊢
      obtain ⟨R, x1, x2, x3, x4, x5, x6, x7, x8⟩ := zsumK h hp hd hz m (by omega) f B F hf h3 s0 c2 f2 q2 ht
      refine ⟨R, x1, x2, x3, x4, x5, x6, ?_, x8⟩
      rw [x7, ep, c]
      funext i j
      have : kc_t (φ 0) a b i j = 0 := by
        unfold kc_t
        rw [h.z]
        split <;> rfl
      dsimp only
      rw [this]
      grind
    · have hab : a + b ≤ 4 := Classical.byContradiction fun z => c (hz a b (by omega))
      have e0 : zte d a b = [43, 48 + d a b, 42, 120, 94, 48 + (a : Int), 42, 121, 94, 48 + (b : Int)] := if_neg c
      rw [e0] at ht hf ⊢
      obtain ⟨y1, y2, y3, y4, y5⟩ := zClo_q h (by omega) h3 s0 c2 f2 q2
      obtain ⟨t0, ht⟩ := zSd.c ht
      obtain ⟨t1, ht⟩ := zSd.c ht
      obtain ⟨t2, ht⟩ := zSd.c ht
      obtain ⟨t3, ht⟩ := zSd.c ht
      obtain ⟨t4, ht⟩ := zSd.c ht
      obtain ⟨t5, ht⟩ := zSd.c ht
      obtain ⟨t6, ht⟩ := zSd.c ht
      obtain ⟨t7, ht⟩ := zSd.c ht
      obtain ⟨t8, ht⟩ := zSd.c ht
      obtain ⟨t9, ht⟩ := zSd.c ht
      have tA := zrr_hd m _ ht
      obtain ⟨k, ek⟩ : ∃ k, k = B 0 0 := ⟨_, rfl⟩
      rw [← ek] at t0 t1 t2 t3 t4 t5 t6 t7 t8 t9 tA ht
      rw [show k + 1 + 1 = k + 2 by omega] at t2 t3 t4 t5 t6 t7 t8 t9 tA ht
      rw [show k + 2 + 1 = k + 3 by omega] at t3 t4 t5 t6 t7 t8 t9 tA ht
      rw [show k + 3 + 1 = k + 4 by omega] at t4 t5 t6 t7 t8 t9 tA ht
      rw [show k + 4 + 1 = k + 5 by omega] at t5 t6 t7 t8 t9 tA ht
      rw [show k + 5 + 1 = k + 6 by omega] at t6 t7 t8 t9 tA ht
      rw [show k + 6 + 1 = k + 7 by omega] at t7 t8 t9 tA ht
      rw [show k + 7 + 1 = k + 8 by omega] at t8 t9 tA ht
      rw [show k + 8 + 1 = k + 9 by omega] at t9 tA ht
      rw [show k + 9 + 1 = k + 10 by omega] at tA ht
      obtain ⟨f3, rfl⟩ : ∃ f3, f = f3 + 3 := ⟨f - 3, by simp only [List.length_append, List.length_cons, List.length_nil] at hf; omega⟩
      rw [zgoo_plus (by rw [← ek]; exact t0)]
      obtain ⟨S1, eS1⟩ : ∃ S1, S1 = zsr (zClo B) (B 0 0 + 1) (B 0 1) (B 0 2) := ⟨_, rfl⟩
      rw [← eS1]
      have S10 : S1 0 0 = k + 1 := by rw [eS1, ek]; rfl
      have S13 : S1 0 3 = p := by rw [eS1]; exact (zClo_0 B 3).trans h3
      have S14 : S1 0 4 = B 0 4 := by rw [eS1]; exact zClo_0 B 4
      have S1k : ∀ j, j ≠ 0 → S1 j = zClo B j := fun j j0 => by rw [eS1, zsr_ne j0]
      have dd := hd a b
      obtain ⟨B1, u1, u2, u3, u4, u5⟩ := zF_num h hp.1 (n := n) (T := T) (S := S1) (u := 1) (a := 0) (b := 0) (c := d a b) (by omega) S13 (by rw [S1k 70 (by decide), y4]; exact zone_c1 hp.1) (by rw [S1k 70 (by decide), y4]; exact zq_1 h) (by omega) (by rw [S10]; exact t1) (by rw [S10, show k + 1 + 1 = k + 2 by omega]; exact Or.inl t2)
      rw [zrsF_go u1]
      have B10 : B1 0 0 = k + 2 := by rw [u2, S10]; omega
      rw [zgoo_star (by rw [B10]; exact t2)]
      obtain ⟨S2, eS2⟩ : ∃ S2, S2 = zsr B1 (B1 0 0 + 1) (B1 0 1) (B1 0 2) := ⟨_, rfl⟩
      rw [← eS2]
      have S20 : S2 0 0 = k + 3 := by
        rw [eS2]
        show B1 0 0 + 1 = _
        omega
      have S23 : S2 0 3 = p := by rw [eS2]; exact u5.1.trans S13
      have S24 : S2 0 4 = B 0 4 := by rw [eS2]; exact u5.2.1.trans S14
      have S2k : ∀ j, j ≠ 0 → S2 j = B1 j := fun j j0 => by rw [eS2, zsr_ne j0]
      obtain ⟨B2, v1, v2, v3, v4, v5⟩ := zF_let h hp.1 (n := n) (T := T) (S := S2) (u := 1 * φ (d a b)) (a := 0) (b := 0) (i := 1) (j := 0) (e := a) (by omega) S23 (by rw [S2k 70 (by decide)]; exact u4) (by rw [S2k 70 (by decide)]; exact u3) (by omega) (zput (zone 0) 1 0 1) (zcan_x hp.1 1 0 (by unfold zfits; omega)) (zq_x h) (by rw [S20]; omega) (by rw [S20]; omega) (zra_x (by rw [S20]; exact t3) (by rw [S20, show k + 3 + 1 = k + 4 by omega]; exact t4)) rfl (by rw [S20, show k + 3 + 1 = k + 4 by omega]; exact t4) (by rw [S20, show k + 3 + 2 = k + 5 by omega]; exact t5) (by rw [S20, show k + 3 + 3 = k + 6 by omega]; exact Or.inl t6)
      rw [zrsF_go v1]
      have B20 : B2 0 0 = k + 6 := by rw [v2, S20]; omega
      rw [zgoo_star (by rw [B20]; exact t6)]
      obtain ⟨S3, eS3⟩ : ∃ S3, S3 = zsr B2 (B2 0 0 + 1) (B2 0 1) (B2 0 2) := ⟨_, rfl⟩
      rw [← eS3]
      have S30 : S3 0 0 = k + 7 := by
        rw [eS3]
        show B2 0 0 + 1 = _
        omega
      have S33 : S3 0 3 = p := by rw [eS3]; exact v5.1.trans S23
      have S34 : S3 0 4 = B 0 4 := by rw [eS3]; exact v5.2.1.trans S24
      have S3k : ∀ j, j ≠ 0 → S3 j = B2 j := fun j j0 => by rw [eS3, zsr_ne j0]
      obtain ⟨B3, w1, w2, w3, w4, w5⟩ := zF_let h hp.1 (n := n) (T := T) (S := S3) (u := 1 * φ (d a b)) (a := 0 + a * 1) (b := 0 + a * 0) (i := 0) (j := 1) (e := b) (by omega) S33 (by rw [S3k 70 (by decide)]; exact v4) (by rw [S3k 70 (by decide)]; exact v3) (by omega) (zput (zone 0) 0 1 1) (zcan_x hp.1 0 1 (by unfold zfits; omega)) (zq_y h) (by rw [S30]; omega) (by rw [S30]; omega) (zra_y (by rw [S30]; exact t7) (by rw [S30, show k + 7 + 1 = k + 8 by omega]; exact t8)) rfl (by rw [S30, show k + 7 + 1 = k + 8 by omega]; exact t8) (by rw [S30, show k + 7 + 2 = k + 9 by omega]; exact t9) (by rw [S30, show k + 7 + 3 = k + 10 by omega]; exact Or.inr tA)
      rw [zrsF_go w1]
      have B30 : B3 0 0 = k + 10 := by rw [w2, S30]; omega
      have keep : ∀ j, j ≠ 0 → j ≠ 4 → j ≠ 5 → j ≠ 6 → j ≠ 70 → B3 j = zClo B j := fun j j0 j4 j5 j6 j7 => (w5.2.2 j j0 j4 j5 j6 j7).trans ((S3k j j0).trans ((v5.2.2 j j0 j4 j5 j6 j7).trans ((S2k j j0).trans ((u5.2.2 j j0 j4 j5 j6 j7).trans (S1k j j0)))))
      have k20 := keep 20 (by decide) (by decide) (by decide) (by decide) (by decide)
      have k2 := keep 2 (by decide) (by decide) (by decide) (by decide) (by decide)
      obtain ⟨R, x1, x2, x3, x4, x5, x6, x7, x8⟩ := zsumK h hp hd hz m (by omega) f3 B3 (fun i j => F i j + zq φ (B 70) i j) (by simp only [List.length_append, List.length_cons, List.length_nil] at hf; omega) (w5.1.trans S33) (by rw [k2]; exact y5) (by rw [k20]; exact y2) (by rw [k20]; exact y3) (by rw [k20]; exact y1) (by rw [B30]; exact ht)
      refine ⟨R, x1, ?_, x3, x4.trans (w5.2.1.trans S34), x5, x6, ?_, fun j j0 j2 j4 j5 j6 j20 j70 => (x8 j j0 j2 j4 j5 j6 j20 j70).trans ((keep j j0 j4 j5 j6 j70).trans (zClo_k B j2 j20 j70))⟩
      · rw [x2, B30, ek]
        simp only [List.length_append, List.length_cons, List.length_nil]
        omega
      · rw [x7, w3, ep]
        funext i j
        dsimp only
        rw [show 0 + a * 1 + b * 0 = a by omega, show 0 + a * 0 + b * 1 = b by omega, show (1 : K) * φ (d a b) = φ (d a b) from by grind]
        grind
end ZLz
