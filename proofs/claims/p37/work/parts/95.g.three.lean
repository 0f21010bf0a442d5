section ZHg
theorem kh_mul_l {K : Type} [Lean.Grind.CommRing K] (a b e : K) (g : Nat → Nat → K) (A B : Nat) : kc_mul (kc_l a b e) g A B = a * (if 1 ≤ A then g (A - 1) B else 0) + b * (if 1 ≤ B then g A (B - 1) else 0) + e * g A B := by
  have e0 : kc_l a b e = fun i j => (fun i j => (fun i j => a * kc_t 1 1 0 i j) i j + (fun i j => b * kc_t 1 0 1 i j) i j) i j + (fun i j => e * kc_t 1 0 0 i j) i j := funext fun i => funext fun j => kh_l_sum a b e i j
  rw [e0, kc_mul_add, kc_mul_add, kc_mul_c, kc_mul_c, kc_mul_c, kc_1_mul]
  show a * kc_mul (kc_t 1 1 0) g A B + b * kc_mul (kc_t 1 0 1) g A B + e * g A B = _
  rw [kc_t_mul, kc_t_mul]
  by_cases c1 : 1 ≤ A
  · rw [if_pos ⟨c1, Nat.zero_le _⟩, if_pos c1, ka_om, show B - 0 = B by omega]
    by_cases c2 : 1 ≤ B
    · rw [if_pos ⟨Nat.zero_le _, c2⟩, if_pos c2, ka_om, show A - 0 = A by omega]
    · rw [if_neg (fun z => c2 z.2), if_neg c2]
  · rw [if_neg (fun z => c1 z.1), if_neg c1]
    by_cases c2 : 1 ≤ B
    · rw [if_pos ⟨Nat.zero_le _, c2⟩, if_pos c2, ka_om, show A - 0 = A by omega]
    · rw [if_neg (fun z => c2 z.2), if_neg c2]
theorem kh_CH : ∀ n, n < 4 → ∀ A, A ≤ n → 1 ≤ A → zCH ((n + 1) * 5 + A) = zCH (n * 5 + (A - 1)) + zCH (n * 5 + A) := by decide +kernel
theorem kh_r4 {K : Type} [Lean.Grind.CommRing K] (a b x y : K) : a * (x * y) + y * (b * x) = (a + b) * (x * y) := by grind
/-- Pascal's numbers -/
theorem kh_sh {K : Type} [Lean.Grind.CommRing K] {p : Int} {φ : Int → K} (h : zKp K p φ) (x : Int) {n : Nat} (hn : n < 4) (A : Nat) : (if 1 ≤ A then (if A - 1 ≤ n then zshK φ x n (A - 1) else 0) else 0) + φ x * (if A ≤ n then zshK φ x n A else 0) = if A ≤ n + 1 then zshK φ x (n + 1) A else 0 := by
  by_cases c0 : A = 0
  · rw [c0, if_neg (by omega), if_pos (by omega), if_pos (by omega), zsh_bot h x (by omega), zsh_bot h x (by omega), ka_za, Lean.Grind.Semiring.pow_succ]
    exact Lean.Grind.CommSemiring.mul_comm _ _
  · by_cases c1 : A = n + 1
    · rw [if_pos (by omega), if_pos (by omega), if_neg (by omega), if_pos (by omega), c1, show n + 1 - 1 = n by omega, zsh_top h x (by omega), zsh_top h x (by omega), ka_mz, ka_az]
    · by_cases c2 : A ≤ n
      · rw [if_pos (by omega), if_pos (by omega), if_pos c2, if_pos (by omega)]
        unfold zshK
        rw [kh_CH n hn A c2 (by omega), h.ad, show n - (A - 1) = (n - A) + 1 by omega, show n + 1 - A = (n - A) + 1 by omega, Lean.Grind.Semiring.pow_succ]
        exact kh_r4 _ _ _ _
      · rw [if_pos (by omega), if_neg (by omega), if_neg c2, if_neg (by omega), ka_mz, ka_az]
theorem kh_pwx {K : Type} [Lean.Grind.CommRing K] {p : Int} {φ : Int → K} (h : zKp K p φ) (x : Int) : ∀ n : Nat, n ≤ 4 → ∀ A B, kc_pw (kc_l 1 0 (φ x)) n A B = if B = 0 then (if A ≤ n then zshK φ x n A else 0) else 0 := fun n => by
  induction n with
  | zero =>
    intro _ A B
    show (if A = 0 ∧ B = 0 then (1 : K) else 0) = _
    by_cases c : B = 0
    · rw [if_pos c]
      by_cases c2 : A = 0
      · rw [if_pos ⟨c2, c⟩, if_pos (by omega), c2, zsh_top h x (by omega)]
      · rw [if_neg (fun z => c2 z.1), if_neg (by omega)]
    · rw [if_neg (fun z => c z.2), if_neg c]
  | succ n ih =>
    intro hn A B
    show kc_mul (kc_pw (kc_l 1 0 (φ x)) n) (kc_l 1 0 (φ x)) A B = _
    rw [kc_mul_comm, kh_mul_l, ka_om, ka_zm, ka_az, ih (by omega), ih (by omega)]
    by_cases c : B = 0
    · rw [if_pos c, if_pos c, if_pos c]
      exact kh_sh h x (by omega) A
    · rw [if_neg c, if_neg c, if_neg c, ka_mz, ka_az]
      split <;> rfl
theorem kh_pwy {K : Type} [Lean.Grind.CommRing K] {p : Int} {φ : Int → K} (h : zKp K p φ) (x : Int) : ∀ n : Nat, n ≤ 4 → ∀ A B, kc_pw (kc_l 0 1 (φ x)) n A B = if A = 0 then (if B ≤ n then zshK φ x n B else 0) else 0 := fun n => by
  induction n with
  | zero =>
    intro _ A B
    show (if A = 0 ∧ B = 0 then (1 : K) else 0) = _
    by_cases c : A = 0
    · rw [if_pos c]
      by_cases c2 : B = 0
      · rw [if_pos ⟨c, c2⟩, if_pos (by omega), c2, zsh_top h x (by omega)]
      · rw [if_neg (fun z => c2 z.2), if_neg (by omega)]
    · rw [if_neg (fun z => c z.1), if_neg c]
  | succ n ih =>
    intro hn A B
    show kc_mul (kc_pw (kc_l 0 1 (φ x)) n) (kc_l 0 1 (φ x)) A B = _
    rw [kc_mul_comm, kh_mul_l, ka_zm, ka_za, ka_om, ih (by omega), ih (by omega)]
    by_cases c : A = 0
    · rw [if_pos c, if_pos c, if_pos c]
      exact kh_sh h x (by omega) B
    · rw [if_neg c, if_neg c, if_neg c, ka_mz, ka_az]
      split <;> rfl
theorem kh_pwm {K : Type} [Lean.Grind.CommRing K] {p : Int} {φ : Int → K} (h : zKp K p φ) (x y : Int) {i j : Nat} (hi : i ≤ 4) (hj : j ≤ 4) (A B : Nat) : kc_mul (kc_pw (kc_l 1 0 (φ x)) i) (kc_pw (kc_l 0 1 (φ y)) j) A B = if A ≤ i ∧ B ≤ j then zshK φ x i A * zshK φ y j B else 0 := by
  unfold kc_mul
  rw [ka_s_one (k := A) (A + 1) (by omega) (fun a ha hne => ka_s_zero _ (fun b hb => by rw [kh_pwy h y j hj, if_neg (by omega), ka_mz])), ka_s_one (k := 0) (B + 1) (by omega) (fun b hb hne => by rw [kh_pwx h x i hi, if_neg hne, ka_zm]), kh_pwx h x i hi, kh_pwy h y j hj, if_pos rfl, if_pos (show A - A = 0 by omega), show B - 0 = B by omega]
  by_cases c1 : A ≤ i
  · rw [if_pos c1]
    by_cases c2 : B ≤ j
    · rw [if_pos c2, if_pos ⟨c1, c2⟩]
    · rw [if_neg c2, if_neg (fun z => c2 z.2), ka_mz]
  · rw [if_neg c1, ka_zm, if_neg (fun z => c1 z.1)]
theorem kh_S5 {K : Type} [Lean.Grind.CommRing K] {p : Int} {φ : Int → K} (h : zKp K p φ) (x y : Int) {P : Nat → Nat → K} (hP : ∀ i j, 4 < i + j → P i j = 0) (A B : Nat) : kh_S (φ x) (φ y) P A B = ka_s (fun i => ka_s (fun j => P i j * (if A ≤ i ∧ B ≤ j then zshK φ x i A * zshK φ y j B else 0)) 5) 5 := by
  unfold kh_S
  rw [kc_sb_ext (n := 5) (by omega) (fun i j hij => hP i j (by omega))]
  unfold kc_sb
  exact ka_s_congr _ (fun i hi => ka_s_congr _ (fun j hj => by rw [kh_pwm h x y (by omega) (by omega)]))
theorem zq_e {K : Type} [Lean.Grind.CommRing K] {φ : Int → K} {c : Nat → Int} {F : Nat → Nat → K} (h1 : ∀ A B, A + B ≤ 4 → φ (c (5 * A + B)) = F A B) (h2 : ∀ A B, 4 < A + B → F A B = 0) : zq φ c = F := funext fun A => funext fun B => by
  by_cases q : A + B ≤ 4
  · rw [zq_t q, h1 A B q]
  · rw [zq_f q, h2 A B (by omega)]
theorem kh_near {K : Type} [Lean.Grind.CommRing K] {p : Int} {φ : Int → K} (h : zKp K p φ) (d : Nat → Int) (x y : Int) : zq φ (zlook d p x y 1) = kh_S (φ x) (φ y) (zq φ d) := zq_e (fun A B hAB => by
  rw [zK_look1 h d x y hAB, kh_S5 h x y zq_flt]
  unfold zLN
  refine ka_s_congr _ (fun i hi => ?_)
  refine (ka_s_congr (g := fun j => zq φ d i j * (if A ≤ i ∧ B ≤ j then zshK φ x i A * zshK φ y j B else 0)) _ (fun j hj => ?_)).trans (ka_s_ext 5 (by omega) (fun j h1 h2 => by rw [zq_f (by omega), ka_zm])).symm
  rw [zq_t (by omega)]
  by_cases c : A ≤ i ∧ B ≤ j
  · rw [if_pos c, if_pos c, ka_rg4]
  · rw [if_neg c, if_neg c, ka_mz]) (kh_S_dg zq_flt)
theorem kh_0pw {K : Type} [Lean.Grind.CommRing K] {p : Int} {φ : Int → K} (h : zKp K p φ) {j B : Nat} (hj : j ≤ 4) (hne : j ≠ B) : (if B ≤ j then zshK φ 0 j B else 0) = 0 := by
  by_cases q : B ≤ j
  · rw [if_pos q]
    unfold zshK
    rw [h.z, ka_0pow (by omega), ka_mz]
  · rw [if_neg q]
theorem kh_far {K : Type} [Lean.Grind.CommRing K] {p : Int} {φ : Int → K} (h : zKp K p φ) (d : Nat → Int) (y : Int) {n : Nat} (hn : (n : Int) = ztop d) : zq φ (zlook d p 1 y 0) = kh_S (φ y) (φ 0) (kh_F n (zq φ d)) := by
  have n4 : n ≤ 4 := by have := zT_le d; omega
  refine zq_e (fun A B hAB => ?_) (kh_S_dg (fun i j hij => kh_L_dg i j (by omega)))
  rw [zK_lookF h d y hn hAB, kh_S5 h y 0 (P := kh_F n (zq φ d)) (fun i j hij => kh_L_dg i j (by omega))]
  have e1 : zLF φ d y n A B = ka_s (fun i => ka_s (fun j => if i + j + B = n ∧ A ≤ j then zq φ d i j * zshK φ y j A else 0) 5) 5 := by
    unfold zLF
    refine ka_s_congr _ (fun i hi => ?_)
    refine (ka_s_congr (g := fun j => if i + j + B = n ∧ A ≤ j then zq φ d i j * zshK φ y j A else 0) _ (fun j hj => by rw [zq_t (by omega)])).trans (ka_s_ext 5 (by omega) (fun j h1 h2 => if_neg (by omega))).symm
  rw [e1, ka_s_swap]
  refine ka_s_congr _ (fun j hj => ?_)
  have e2 : ka_s (fun t => kh_F n (zq φ d) j t * (if A ≤ j ∧ B ≤ t then zshK φ y j A * zshK φ 0 t B else 0)) 5 = kh_F n (zq φ d) j B * (if A ≤ j then zshK φ y j A else 0) := by
    rw [ka_s_one (k := B) 5 (by omega) (fun t ht hne => by
      have z := kh_0pw h (j := t) (B := B) (by omega) hne
      by_cases q : A ≤ j ∧ B ≤ t
      · rw [if_pos q.2] at z
        rw [if_pos q, z, ka_mz, ka_mz]
      · rw [if_neg q, ka_mz])]
    by_cases q : A ≤ j
    · rw [if_pos ⟨q, Nat.le_refl _⟩, if_pos q, zsh_top h 0 (by omega), Lean.Grind.Semiring.mul_one]
    · rw [if_neg (fun z => q z.1), if_neg q]
  rw [e2]
  show _ = (if j + B ≤ n then zq φ d (n - j - B) j else 0) * (if A ≤ j then zshK φ y j A else 0)
  by_cases q : j + B ≤ n ∧ A ≤ j
  · rw [if_pos q.1, if_pos q.2, ka_s_one (k := n - j - B) 5 (by omega) (fun i hi hne => if_neg (by omega)), if_pos (by omega)]
  · rw [ka_s_zero 5 (fun i hi => if_neg (by omega))]
    by_cases q1 : j + B ≤ n
    · rw [if_pos q1, if_neg (fun z => q ⟨q1, z⟩), ka_mz]
    · rw [if_neg q1, ka_zm]
theorem kh_last {K : Type} [Lean.Grind.CommRing K] {p : Int} {φ : Int → K} (h : zKp K p φ) (d : Nat → Int) (y : Int) {n : Nat} (hn : (n : Int) = ztop d) : zq φ (zlook d p 0 y 0) = kh_L n (zq φ d) := by
  have n4 : n ≤ 4 := by have := zT_le d; omega
  refine zq_e (fun A B hAB => ?_) (fun i j hij => kh_L_dg i j (by omega))
  rw [zK_look0 h d y hn hAB]
  unfold zLLl kh_L
  by_cases q : A + B ≤ n
  · rw [if_pos q, ka_s_one (k := A) 5 (by omega) (fun a ha hne => ka_s_zero _ (fun b hb => if_neg (fun z => hne z.1))), ka_s_one (k := n - A - B) (4 - A + 1) (by omega) (fun b hb hne => if_neg (by omega)), if_pos (by omega), zq_t (by omega)]
  · rw [if_neg q]
    exact ka_s_zero _ (fun a ha => ka_s_zero _ (fun b hb => if_neg (by omega)))
/-- LOCAL, of whatever POINT -/
theorem kh_at {K : Type} [Lean.Grind.CommRing K] {p : Int} {φ : Int → K} (h : zKp K p φ) (pt : Int) : ∃ Λ : Nat → (Nat → Nat → K) → Nat → Nat → K, kh_ok Λ ∧ ∀ (d : Nat → Int) (n : Nat), (n : Int) = ztop d → zq φ (zlook d p (zpx pt p) (zpy pt p) (zpz pt p)) = Λ n (zq φ d) := by
  by_cases e1 : pt < p * p
  · rw [show zpz pt p = 1 from if_pos e1]
    exact ⟨_, kh_S_ok (φ (zpx pt p)) (φ (zpy pt p)) _ kh_id_ok, fun d n hn => kh_near h d _ _⟩
  · rw [show zpz pt p = 0 from if_neg e1]
    by_cases e2 : pt = p * p + p
    · rw [show zpx pt p = 0 from by unfold zpx; rw [if_neg e1, if_pos e2]]
      exact ⟨_, kh_L_ok, fun d n hn => kh_last h d _ hn⟩
    · rw [show zpx pt p = 1 from by unfold zpx; rw [if_neg e1, if_neg e2]]
      exact ⟨_, kh_S_ok (φ (zpy pt p)) (φ 0) _ kh_F_ok, fun d n hn => kh_far h d _ hn⟩
/-- the grid of the RULES -/
theorem zld_sp (d : Nat → Int) {i j : Nat} (hi : i < 17) (hj : j < 17) : zld d (17 * i + j) = if i + j ≤ 4 then d (5 * i + j) else 0 := by
  have inn : ∀ (n : Nat) (X : Nat → Int), n < 5 → ∀ a b : Nat, b < 17 → zld_out d n X (17 * a + b) = if a = n ∧ a + b ≤ 4 then d (5 * a + b) else X (17 * a + b) := fun n X hn a b hb => by
    have f := zfor_ix (step := zld_in d n) (a := 0) (s := X) (fun (m : Nat) (Y : Nat → Int) => ∀ a b : Nat, b < 17 → Y (17 * a + b) = if a = n ∧ b < m then d (5 * a + b) else X (17 * a + b)) (fun a b hb => by rw [if_neg (by omega)]) (5 - n) (fun m Y hm hY a b hb => by
      unfold zld_in
      rw [show ((n : Int) * 17 + (0 + (m : Int))).toNat = 17 * n + m by omega, zup_ap, hY a b hb, show (0 + (m : Int)) = (m : Int) by omega, zatN (show n + m ≤ 4 by omega)]
      by_cases e : a = n ∧ b = m
      · rw [if_pos (by omega), if_pos (by omega), e.1, e.2]
      · rw [if_neg (by omega)]
        by_cases e2 : a = n ∧ b < m
        · rw [if_pos e2, if_pos (by omega)]
        · rw [if_neg e2, if_neg (by omega)])
    unfold zld_out
    rw [show (4 - (n : Int) + 1 - 0).toNat = 5 - n by omega, f a b hb]
    by_cases e2 : a = n ∧ b < 5 - n
    · rw [if_pos e2, if_pos (by omega)]
    · rw [if_neg e2, if_neg (by omega)]
  have out := zfor_ix (step := zld_out d) (a := 0) (s := fun _ => 0) (fun (n : Nat) (Y : Nat → Int) => ∀ a b : Nat, b < 17 → Y (17 * a + b) = if a < n ∧ a + b ≤ 4 then d (5 * a + b) else 0) (fun a b hb => by rw [if_neg (by omega)]) 5 (fun n Y hn hY a b hb => by
    rw [show (0 + (n : Int)) = (n : Int) by omega, inn n Y hn a b hb, hY a b hb]
    by_cases e : a = n ∧ a + b ≤ 4
    · rw [if_pos e, if_pos (by omega)]
    · rw [if_neg e]
      by_cases e3 : a < n ∧ a + b ≤ 4
      · rw [if_pos e3, if_pos (by omega)]
      · rw [if_neg e3, if_neg (by omega)])
  have := out i j hj
  unfold zld
  rw [show (5 - 0 : Int).toNat = 5 by decide, this]
  by_cases e : i + j ≤ 4
  · rw [if_pos (by omega), if_pos e]
  · rw [if_neg (by omega), if_neg e]
theorem kgr_ld {K : Type} [Lean.Grind.CommRing K] {p : Int} {φ : Int → K} (h : zKp K p φ) (d : Nat → Int) : kgr φ (zld d) = zq φ d := funext fun i => funext fun j => by
  by_cases c : i + j ≤ 16
  · rw [kgr_t c, zld_sp d (by omega) (by omega)]
    by_cases q : i + j ≤ 4
    · rw [if_pos q, zq_t q]
    · rw [if_neg q, zq_f q, h.z]
  · rw [zq_f (by omega)]
    exact if_neg c
/-- VALUE is LOCAL there, of any POLYNOMIAL -/
theorem zlook_0 {p : Int} (hpr : zPr p) {d : Nat → Int} (hf : zflt d) (ht : 0 ≤ ztop d) (pt : Int) : zval d (zpx pt p) (zpy pt p) (zpz pt p) p = zlook d p (zpx pt p) (zpy pt p) (zpz pt p) 0 := by
  obtain ⟨M, hM⟩ : ∃ M : zCt, M = ((fun a i => if a = 0 ∧ i = 3 then p else 0), (fun _ => d), (fun _ _ => 0), (fun _ _ _ => 0), (fun _ _ => 0)) := ⟨_, rfl⟩
  have h3 : M.1 0 3 = p := by
    rw [hM]
    show (if (0 : Nat) = 0 ∧ (3 : Nat) = 3 then p else 0) = p
    rw [if_pos ⟨rfl, rfl⟩]
  have hc : M.2.1 (0 : Int).toNat = d := by rw [hM]
  have hX : zBx M := ⟨by rw [h3]; exact hpr, fun c _ => by rw [hM]; exact hf, fun j hj => by
    rw [hM] at hj
    have : (j : Int) < (0 : Int) := hj
    omega⟩
  have := zLk_0 hX (cv := 0) (pt := pt) (by rw [hc]; exact ht)
  unfold zLk at this
  rw [hc, h3] at this
  exact this
/-- the RULES end, wherever the COMMON PART is not 0 -/
theorem zr_ends {p : Int} (hpr : zPr p) {a b : Nat → Int} (ha : zcan p a) (hb : zcan p b) (fa : 0 ≤ ztop a) (fb : 0 ≤ ztop b) (pt : Int) (hv : zval (zcmP a b p) (zpx pt p) (zpy pt p) (zpz pt p) p ≠ 0) : zrE p 2048 (zld (zlook a p (zpx pt p) (zpy pt p) (zpz pt p))) (zld (zlook b p (zpx pt p) (zpy pt p) (zpz pt p))) := by
  have hp := zPr_2 hpr
  obtain ⟨K, iK, φ, h⟩ := zKp_ex hpr
  obtain ⟨Λ, hΛ, hL⟩ := kh_at h pt
  have ta4 := zT_le a
  have tb4 := zT_le b
  obtain ⟨n, hn⟩ : ∃ n : Nat, (n : Int) = ztop a := ⟨(ztop a).toNat, by omega⟩
  obtain ⟨m, hm⟩ : ∃ m : Nat, (m : Int) = ztop b := ⟨(ztop b).toNat, by omega⟩
  obtain ⟨u, w, hh, hU⟩ := kUW_ex h ha hb fa fb
  obtain ⟨f1, f2⟩ := zT_ed h (fun i j _ => ha _) hn
  obtain ⟨g1, g2⟩ := zT_ed h (fun i j _ => hb _) hm
  obtain ⟨e, nu, nw, em, en, ⟨h1, h2⟩, ⟨u1, u2⟩, ⟨w1, w2⟩⟩ := kUW_dg h.F hU f1 f2 g1 g2
  obtain ⟨⟨ν, ν0, d4⟩, d5⟩ := kpartC h hp.1 ha hb fa fb hU
  have cc : zcan p (zcmP a b p) := zcom_can (by omega)
  have te : ztop (zcmP a b p) = e := zT_eq h (fun i j _ => cc _) (n := e) (fun i j hij => by
    rw [d4]
    show ν * hh i j = 0
    rw [h1 i j hij, ka_mz]) (by
    obtain ⟨i, j, hij, q⟩ := h2
    refine ⟨i, j, hij, ?_⟩
    rw [d4]
    intro z
    rcases h.F.dom _ _ z with z | z
    · exact ν0 z
    · exact q z)
  have H0 : Λ e hh 0 0 ≠ 0 := fun z => hv (by
    rw [zlook_0 hpr zcmP_fl (by omega) pt]
    refine (h.z0 (zlook_can (by omega) _)).1 ?_
    have k1 : zq φ (zlook (zcmP a b p) p (zpx pt p) (zpy pt p) (zpz pt p)) 0 0 = φ (zlook (zcmP a b p) p (zpx pt p) (zpy pt p) (zpz pt p) 0) := zq_t (by omega)
    rw [← k1, hL _ e te.symm, d4]
    have k2 := hΛ.2.2.1 e (fun _ => ν) (fun _ => hh) 1
    have k3 : (fun i j => ka_s (fun t => (fun _ => ν) t * (fun _ => hh) t i j) 1) = fun i j => ν * hh i j := funext fun i => funext fun j => ka_za _
    rw [k3] at k2
    rw [k2]
    show 0 + ν * Λ e hh 0 0 = 0
    rw [z, ka_mz, ka_az])
  have bz := kh_bez h.F hΛ hU h1 u1 u2 w1 (by omega) (by omega) H0
  rw [show e + nw = n by omega, show e + nu = m by omega, ← hL a n hn, ← hL b m hm, ← kgr_ld h, ← kgr_ld h] at bz
  refine zrE_of h hpr 2048 137 _ _ (zld_can (by omega) (zlook_can (by omega))) (zld_can (by omega) (zlook_can (by omega))) (Nat.le_refl _) bz ?_
  have := (zpsi_le (zgrt_rng (zld (zlook a p (zpx pt p) (zpy pt p) (zpz pt p)))) (zgrt_rng (zld (zlook b p (zpx pt p) (zpy pt p) (zpz pt p))))).2
  omega
end ZHg
