section ZEe
/-- while the cofactor is looked for -/
def kCf {K : Type} [Lean.Grind.CommRing K] (φ : Int → K) (f g : Nat → Nat → K) (n T : Nat) (s : zSg) : Prop := kRw φ f g n T s ∧ (∀ i j, i + j ≤ n → ke_S φ 45 45 s.2.1 s.1 (kvec (kc_mul (kc_t 1 i j) g))) ∧ (∀ i j, ncol i j < T → ke_S φ 45 45 s.2.1 s.1 (kvec (kc_mul (kc_t 1 i j) f))) ∧ ∀ B P : Nat → Nat → K, (∀ i j, T ≤ ncol i j → B i j = 0) → (∀ i j, n < i + j → P i j = 0) → (∀ i j, kc_mul B f i j = kc_mul P g i j) → ∀ i j, B i j = 0
/-- what was found: the least one -/
def kFd {K : Type} [Lean.Grind.CommRing K] (φ : Int → K) (f g : Nat → Nat → K) (n m : Nat) (c : Nat → Int) : Prop := ∃ (d j : Nat) (B P : Nat → Nat → K), d ≤ m ∧ j ≤ d ∧ B (d - j) j = 1 ∧ (∀ x y, nT d + j < ncol x y → B x y = 0) ∧ (∀ x y, n < x + y → P x y = 0) ∧ (∀ x y, kc_mul B f x y = kc_mul P g x y) ∧ zq φ c = B ∧ ∀ C Q : Nat → Nat → K, (∀ x y, nT d + j ≤ ncol x y → C x y = 0) → (∀ x y, n < x + y → Q x y = 0) → (∀ x y, kc_mul C f x y = kc_mul Q g x y) → ∀ x y, C x y = 0
theorem kc_sum_t {K : Type} [Lean.Grind.CommRing K] {P : Nat → Nat → K} {N : Nat} (g : Nat → Nat → K) (hP : ∀ i j, N ≤ ncol i j → P i j = 0) : ∀ x y, kc_mul P g x y = ka_s (fun t => P (ndc t).1 (ndc t).2 * kc_mul (kc_t 1 (ndc t).1 (ndc t).2) g x y) N := by
  have e0 : P = fun i j => ka_s (fun t => P (ndc t).1 (ndc t).2 * kc_t 1 (ndc t).1 (ndc t).2 i j) N := funext fun i => funext fun j => by
    by_cases q : ncol i j < N
    · rw [ka_s_one (k := ncol i j) N q (fun t ht hne => by
        unfold kc_t
        rw [if_neg (fun z => hne (by rw [z.1, z.2, ncol_ndc])), ka_mz]), ndc_ncol]
      unfold kc_t
      rw [if_pos ⟨rfl, rfl⟩]; grind
    · rw [hP i j (by omega)]
      refine (ka_s_zero _ (fun t ht => ?_)).symm
      unfold kc_t
      rw [if_neg (fun z => q (by rw [z.1, z.2, ncol_ndc]; exact ht)), ka_mz]
  intro x y
  have lin : ∀ (c : Nat → K) (F : Nat → Nat → Nat → K) (m : Nat), kc_mul (fun i j => ka_s (fun t => c t * F t i j) m) g x y = ka_s (fun t => c t * kc_mul (F t) g x y) m := fun c F m => by
    induction m with
    | zero => exact kc_zmul g x y
    | succ m ih =>
      have e := congrFun (congrFun (kc_mul_ac (fun i j => ka_s (fun t => c t * F t i j) m) (F m) g (c m)) x) y
      refine Eq.trans e ?_
      show _ + _ = ka_s (fun t => c t * kc_mul (F t) g x y) m + c m * kc_mul (F m) g x y
      rw [ih]
  have e1 := lin (fun t => P (ndc t).1 (ndc t).2) (fun t => kc_t 1 (ndc t).1 (ndc t).2) N
  rw [← e0] at e1
  exact e1
theorem ztake_sp (l c : Nat → Int) : ∀ i j : Nat, i + j ≤ 4 → ztake l c (5 * i + j) = l (45 + ncol i j) := by
  have h : (fun (n : Nat) (x : Nat → Int) => ∀ i j : Nat, i < n → i + j ≤ 4 → x (5 * i + j) = l (45 + ncol i j)) 5 (ztake l c) := by
    unfold ztake
    refine zfor_ix (I := fun (n : Nat) (x : Nat → Int) => ∀ i j : Nat, i < n → i + j ≤ 4 → x (5 * i + j) = l (45 + ncol i j)) (fun i j hi => absurd hi (Nat.not_lt_zero _)) 5 (fun d x hd hx => ?_)
    rw [show 0 + (d : Int) = (d : Int) by omega]
    show ∀ i j : Nat, i < d + 1 → i + j ≤ 4 → (zfor (ztake_in l d) 0 x (4 - (d : Int) + 1 - 0).toNat) (5 * i + j) = l (45 + ncol i j)
    rw [show (4 - (d : Int) + 1 - 0).toNat = 4 - d + 1 by omega]
    have h2 : (fun (n : Nat) (y : Nat → Int) => ∀ i j : Nat, (i < d ∧ i + j ≤ 4) ∨ (i = d ∧ j < n) → y (5 * i + j) = l (45 + ncol i j)) (4 - d + 1) (zfor (ztake_in l d) 0 x (4 - d + 1)) := by
      refine zfor_ix (I := fun (n : Nat) (y : Nat → Int) => ∀ i j : Nat, (i < d ∧ i + j ≤ 4) ∨ (i = d ∧ j < n) → y (5 * i + j) = l (45 + ncol i j)) (fun i j hij => hx i j (by omega) (by omega)) (4 - d + 1) (fun k y hk hy => ?_)
      intro i j hij
      rw [show 0 + (k : Int) = (k : Int) by omega]
      show zput y d k (l (45 + zcol d k).toNat) (5 * i + j) = _
      rw [zput_t (by unfold zfits; omega), show ((d : Int) * 5 + (k : Int)).toNat = 5 * d + k by omega, zcol_n, show (45 + (ncol d k : Int)).toNat = 45 + ncol d k by omega]
      unfold zup
      by_cases e : i = d ∧ j = k
      · rw [if_pos (by omega), e.1, e.2]
      · rw [if_neg (by omega)]; exact hy i j (by omega)
    exact fun i j hi hij => h2 i j (by omega)
  exact fun i j hij => h i j (by omega) hij
theorem kcof_step {K : Type} [Lean.Grind.CommRing K] {p : Int} {φ : Int → K} (h : zKp K p φ) (hp : 2 ≤ p) {a : Nat → Int} {g : Nat → Nat → K} (ha : zcan p a) {n m d j : Nat} {s : zSg} (hn4 : n ≤ 4) (hd : d ≤ 4) (hdm : d ≤ m) (hj : j ≤ d) (hg4 : ∀ x y, 4 < x + y → g x y = 0) (hs : kCf φ (zq φ a) g n (nT d + j) s) :
    (zsp1 s.2.1 s.1 60 45 p (zfcl a d j) = 0 ∧ kFd φ (zq φ a) g n m (ztake (zsg p (zfcl a d j) s).2.2 (zone 1))) ∨ (zsp1 s.2.1 s.1 60 45 p (zfcl a d j) ≠ 0 ∧ kCf φ (zq φ a) g n (nT d + (j + 1)) (zsg p (zfcl a d j) s)) := by
  obtain ⟨h1, h2, h3, h4⟩ := hs
  obtain ⟨T, hT⟩ : ∃ T, T = nT d + j := ⟨_, rfl⟩
  have nT1 : ncol (d - j) j = T := by
    rw [hT]
    unfold ncol
    rw [show d - j + j = d by omega]
  have T15 : T < 15 := by
    have := ncol_lt (i := d - j) (j := j) (d := 5) (by omega)
    rw [nT1] at this
    have := nT_9.2.1
    omega
  rw [← hT] at h1 h3 h4
  have ecl : zfcl a d j = zsc (zline a ((d - j : Nat) : Int) (j : Int)) ((45 + T : Nat) : Int) 1 := by
    unfold zfcl
    rw [show ((d : Int) - (j : Int)) = ((d - j : Nat) : Int) by omega, zcol_n, nT1, show (45 : Int) + (T : Int) = ((45 + T : Nat) : Int) by omega]
  obtain ⟨c, hc⟩ : ∃ c, c = zfcl a d j := ⟨_, rfl⟩
  rw [← hc]
  have lk : ∀ k, φ (zline a ((d - j : Nat) : Int) (j : Int) k) = kvec (kc_mul (kc_t 1 (d - j) j) (zq φ a)) k := fun k => zline_K h a (d - j) j (by omega) k
  have ck : ∀ k, φ (c k) = if k = 45 + T then 1 else kvec (kc_mul (kc_t 1 (d - j) j) (zq φ a)) k := fun k => by
    rw [hc, ecl, zsc_sp]
    by_cases e : k = 45 + T
    · rw [if_pos ⟨e, by omega, by decide⟩, if_pos e, h.o]
    · rw [if_neg (fun z => e z.1), if_neg e]; exact lk k
  have cc : zcan p c := by
    rw [hc, ecl]
    exact zsc_can (zline_can (by omega) ha) (by omega)
  have dz : ∀ x y, 8 < x + y → kc_mul (kc_t (1 : K) (d - j) j) (zq φ a) x y = 0 := fun x y hxy => kc_zero (n := d) (m := 4) (kc_t_dg (by omega)) zq_flt x y (by omega)
  have cg : kGv (zq φ a) g n (T + 1) (fun k => φ (c k)) := ⟨kc_t 1 (d - j) j, fun _ _ => 0, fun x y hxy => if_neg (fun z => by rw [z.1, z.2, nT1] at hxy; omega), fun _ _ _ => rfl, fun k hk => by
    refine (ck k).trans ?_
    rw [if_neg (by omega)]
    unfold kvec
    rw [kc_zmul, ka_az], fun t ht => by
    refine (ck _).trans ?_
    unfold kvec kc_t
    by_cases e : t = T
    · rw [if_pos (by omega), if_pos]
      have := ncol_ndc t
      rw [e, ← nT1] at this
      rw [e, ← nT1, ndc_ncol]
      exact ⟨rfl, rfl⟩
    · rw [if_neg (by omega), if_neg (fun z => e (by rw [← ncol_ndc t, z.1, z.2, nT1]))]
      exact kvec_out dz (by omega)⟩
  have h1' : kRw φ (zq φ a) g n (T + 1) s := ⟨h1.1, fun q hq hk => kGv_mono (h1.2 q hq hk) (by omega)⟩
  have nx := ke_next h hp (w := 60) (lim := 45) (by decide) h1.1 cc
  rcases nx.2.2.2.2.1 with z | z
  · refine Or.inl ⟨z, ?_⟩
    rcases ke_add h hp (w := 60) (lim := 45) (by decide) h1.1 cc with ⟨f1, f2, f3, f4, f5, α, f6, f7⟩ | ⟨r, α, u, g1, _⟩
    · have sm : kGv (zq φ a) g n T (fun k => ka_s (fun q => α q * φ (s.1 q k)) 45) := kGv_sum α (fun q k => φ (s.1 q k)) 45 (fun t ht => by
        by_cases y : s.2.1 t = 0
        · exact Or.inl (f6 t y)
        · exact Or.inr (h1.2 t ht y))
      obtain ⟨B0, P0, b1, b2, b3, b4⟩ := sm
      have b3 : ∀ k, k < 45 → ka_s (fun q => α q * φ (s.1 q k)) 45 = kvec (kc_mul B0 (zq φ a)) k + kvec (kc_mul P0 g) k := b3
      have b4 : ∀ t, t < 15 → ka_s (fun q => α q * φ (s.1 q (45 + t))) 45 = kvec B0 t := b4
      obtain ⟨v, hv⟩ : ∃ v, v = (zspan s.2.1 s.1 60 45 p c).2 := ⟨_, rfl⟩
      have f5' : ∀ k, k < 45 → v k = 0 := by rw [hv]; exact f5
      have f7' : ∀ k, k < 60 → φ (c k) = φ (v k) + ka_s (fun q => α q * φ (s.1 q k)) 45 := by rw [hv]; exact f7
      have zB : ∀ k, k < 45 → kvec (kc_mul (kc_t 1 (d - j) j) (zq φ a)) k = kvec (kc_mul B0 (zq φ a)) k + kvec (kc_mul P0 g) k := fun k hk => by
        have e1 := f7' k (by omega)
        rw [f5' k hk, h.z, ka_za, b3 k hk, ck k, if_neg (by omega)] at e1
        exact e1
      have B4 : ∀ x y, 4 < x + y → B0 x y = 0 := fun x y hxy => b1 x y (by
        have := ncol_ge (i := x) (j := y) (d := 5) (by omega)
        have := nT_9.2.1
        omega)
      obtain ⟨B, hB⟩ : ∃ B : Nat → Nat → K, B = fun x y => kc_t 1 (d - j) j x y + (-1) * B0 x y := ⟨_, rfl⟩
      have BT : ∀ x y, T < ncol x y → B x y = 0 := fun x y hxy => by
        rw [hB]
        show kc_t 1 (d - j) j x y + (-1) * B0 x y = 0
        rw [b1 x y (by omega), ka_mz, ka_az]
        exact if_neg (fun z => by rw [z.1, z.2, nT1] at hxy; omega)
      refine ⟨d, j, B, P0, hdm, hj, ?_, by rw [← hT]; exact BT, b2, fun x y => ?_, funext fun x => funext fun y => ?_, by rw [← hT]; exact h4⟩
      · rw [hB]
        show kc_t 1 (d - j) j (d - j) j + (-1) * B0 (d - j) j = 1
        rw [b1 (d - j) j (by omega), ka_mz, ka_az]
        exact if_pos ⟨rfl, rfl⟩
      · rw [hB, kc_mul_ac]
        show kc_mul (kc_t 1 (d - j) j) (zq φ a) x y + (-1) * kc_mul B0 (zq φ a) x y = kc_mul P0 g x y
        by_cases q8 : x + y ≤ 8
        · have e1 := zB (ncol x y) (by
            have := ncol_lt (i := x) (j := y) (d := 9) (by omega)
            rw [nT_9.1] at this
            exact this)
          unfold kvec at e1
          rw [ndc_ncol] at e1
          have e2 : kc_mul (kc_t 1 (d - j) j) (zq φ a) x y = kc_mul B0 (zq φ a) x y + kc_mul P0 g x y := e1
          rw [e2]; grind
        · rw [dz x y (by omega), kc_zero (n := 4) (m := 4) B4 zq_flt x y (by omega), kc_zero (n := n) (m := 4) b2 hg4 x y (by omega), ka_mz, ka_az]
      · by_cases q4 : x + y ≤ 4
        · have n15 : ncol x y < 15 := by
            have := ncol_lt (i := x) (j := y) (d := 5) (by omega)
            have := nT_9.2.1
            omega
          have ev : (zsg p c s).2.2 = v := hv.symm
          rw [zq_t q4, ztake_sp _ _ x y q4, ev]
          have e1 := f7' (45 + ncol x y) (by omega)
          rw [b4 _ n15, ck] at e1
          unfold kvec at e1
          rw [ndc_ncol] at e1
          have e3 : φ (v (45 + ncol x y)) = (if 45 + ncol x y = 45 + T then 1 else kc_mul (kc_t 1 (d - j) j) (zq φ a) (ndc (45 + ncol x y)).1 (ndc (45 + ncol x y)).2) + (-1) * B0 x y := by
            rw [e1]
            show φ (v (45 + ncol x y)) = (φ (v (45 + ncol x y)) + B0 x y) + (-1) * B0 x y
            grind
          rw [e3, hB]
          show _ = kc_t 1 (d - j) j x y + (-1) * B0 x y
          unfold kc_t
          by_cases e : x = d - j ∧ y = j
          · rw [if_pos (by rw [e.1, e.2, nT1]), if_pos e]
          · rw [if_neg (fun z => e (ncol_inj ((show ncol x y = T by omega).trans nT1.symm))), if_neg e]
            have := kvec_out dz (k := 45 + ncol x y) (by omega)
            unfold kvec at this
            unfold kc_t at this
            rw [this]
        · rw [zq_f q4, BT x y (by
            have := ncol_ge (i := x) (j := y) (d := 5) (by omega)
            have := nT_9.2.1
            omega)]
    · exact absurd (z.symm.trans g1) (by decide)
  · have z : zsp1 s.2.1 s.1 60 45 p c = 1 := z
    refine Or.inr ⟨by rw [z]; decide, ?_⟩
    have hno : ¬ ke_S φ 45 45 s.2.1 s.1 (fun k => φ (c k)) := fun y => by
      have : zsp1 s.2.1 s.1 60 45 p c = 0 := nx.2.2.2.1.2 y
      rw [z] at this
      exact absurd this (by decide)
    have cf : ∀ k, k < 45 → φ (c k) = kvec (kc_mul (kc_t 1 (d - j) j) (zq φ a)) k := fun k hk => by rw [ck, if_neg (by omega)]
    have eT : nT d + (j + 1) = T + 1 := by omega
    rw [eT]
    refine ⟨kRw_step h hp h1' cc cg, fun x y hxy => nx.2.1 45 _ (by decide) (h2 x y hxy), fun x y hxy => ?_, fun B P hB hP hBP => ?_⟩
    · by_cases e : ncol x y < T
      · exact nx.2.1 45 _ (by decide) (h3 x y e)
      · obtain ⟨e1, e2⟩ := ncol_inj ((show ncol x y = T by omega).trans nT1.symm)
        rw [e1, e2]
        exact ke_S_congr nx.2.2.1 (fun k hk => (cf k hk).symm)
    · by_cases b0 : B (d - j) j = 0
      · refine h4 B P (fun x y hxy => ?_) hP hBP
        by_cases e : ncol x y = T
        · obtain ⟨e1, e2⟩ := ncol_inj (e.trans nT1.symm)
          rw [e1, e2]; exact b0
        · exact hB x y (by omega)
      · exfalso
        apply hno
        obtain ⟨v, hv⟩ := h.F.2 _ b0
        -- the others, then what the second CURVE makes
        have sB := kc_sum_t (zq φ a) (N := T + 1) hB
        have sP := kc_sum_t g (P := P) (N := nT (n + 1)) (fun x y hxy => hP x y (Classical.byContradiction fun q => by
          have := ncol_lt (i := x) (j := y) (d := n + 1) (by omega)
          omega))
        have s1 : ke_S φ 45 45 s.2.1 s.1 (fun k => ka_s (fun t => P (ndc t).1 (ndc t).2 * kvec (kc_mul (kc_t 1 (ndc t).1 (ndc t).2) g) k) (nT (n + 1))) := ke_S_sum (fun t => P (ndc t).1 (ndc t).2) (fun t => kvec (kc_mul (kc_t 1 (ndc t).1 (ndc t).2) g)) _ (fun t ht => Or.inr (h2 _ _ (by have := ndc_dg ht; omega)))
        have s2 : ke_S φ 45 45 s.2.1 s.1 (fun k => ka_s (fun t => B (ndc t).1 (ndc t).2 * kvec (kc_mul (kc_t 1 (ndc t).1 (ndc t).2) (zq φ a)) k) T) := ke_S_sum (fun t => B (ndc t).1 (ndc t).2) (fun t => kvec (kc_mul (kc_t 1 (ndc t).1 (ndc t).2) (zq φ a))) _ (fun t ht => Or.inr (h3 _ _ (by rw [ncol_ndc]; exact ht)))
        have s3 := ke_S_add ke_S_zero (ke_S_add s1 s2 (-1)) v
        refine ke_S_congr s3 (fun k hk => ?_)
        show φ (c k) = 0 + v * (ka_s (fun t => P (ndc t).1 (ndc t).2 * kvec (kc_mul (kc_t 1 (ndc t).1 (ndc t).2) g) k) (nT (n + 1)) + (-1) * ka_s (fun t => B (ndc t).1 (ndc t).2 * kvec (kc_mul (kc_t 1 (ndc t).1 (ndc t).2) (zq φ a)) k) T)
        rw [cf k hk]
        have e1 := hBP (ndc k).1 (ndc k).2
        rw [sB, sP] at e1
        have e2 : ka_s (fun t => B (ndc t).1 (ndc t).2 * kc_mul (kc_t 1 (ndc t).1 (ndc t).2) (zq φ a) (ndc k).1 (ndc k).2) T + B (ndc T).1 (ndc T).2 * kc_mul (kc_t 1 (ndc T).1 (ndc T).2) (zq φ a) (ndc k).1 (ndc k).2 = ka_s (fun t => P (ndc t).1 (ndc t).2 * kc_mul (kc_t 1 (ndc t).1 (ndc t).2) g (ndc k).1 (ndc k).2) (nT (n + 1)) := e1
        have eN : ndc T = (d - j, j) := by rw [← nT1, ndc_ncol]
        rw [eN] at e2
        have e3 : ∀ (S1 b X S2 v : K), S1 + b * X = S2 → b * v = 1 → X = 0 + v * (S2 + (-1) * S1) := fun S1 b X S2 v q1 q2 => by
          rw [← q1, show 0 + v * (S1 + b * X + -1 * S1) = (b * v) * X by grind, q2, ka_om]
        exact e3 _ _ _ _ _ e2 hv
end ZEe
