section ZIe
/-- the row of a TERM times the second CURVE, gone down -/
theorem krow {K : Type} [Lean.Grind.CommRing K] {p : Int} {φ : Int → K} (h : zKp K p φ) (hp : 2 ≤ p) {d g : Nat → Int} (hd : zcan p d) {lc : Int} {x y top : Nat} (hxy : x + y ≤ 4) (ht : top ≤ 24) (hL : kLe (zq φ d) lc x y) (i j : Nat) : zcan p (zrow g d x y p top lc i j) ∧ (∀ A B : Nat, A + B ≤ top → x ≤ A → y ≤ B → zrow g d x y p top lc i j (25 * A + B) = 0) ∧ ∃ C : Nat → Nat → K, (∀ a b, top < a + b + (x + y) → C a b = 0) ∧ ∀ A B : Nat, A + B ≤ top → krw φ top (zrow g d x y p top lc i j) A B = kc_mul (kc_t 1 i j) (zq φ g) A B + kc_mul C (zq φ d) A B := by
  have z0 : zcan p (fun _ => 0) := fun _ => by
    show (0 : Int) ≤ 0 ∧ (0 : Int) < p
    omega
  have c0 : zcan p (zatr (fun _ => 0) g i j 1 p top) := zatr_can (by omega) (Int.le_refl _) z0
  obtain ⟨k1, k2, k3, C, c1, c2⟩ := kred h hp (fun i j _ => hd _) hxy ht hL (Nat.le_refl top) (Or.inr rfl) c0 (fun A B a b => by omega)
  refine ⟨k1, fun A B a b c => k3 A B a b c trivial, C, c1, fun A B hAB => ?_⟩
  have e := c2 A B hAB
  have e0 : krw φ top (fun _ => 0) A B = 0 := by rw [krw_t hAB, h.z]
  rw [krw_atr h (by omega) z0 ht hAB, e0, h.o, ka_om, ka_za] at e
  exact e
/-- all lines of the second CURVE come to the space -/
theorem kam {K : Type} [Lean.Grind.CommRing K] {p : Int} {φ : Int → K} (h : zKp K p φ) (hp : 2 ≤ p) {d g col : Nat → Int} (hd : zcan p d) {lc : Int} {x y top w most m : Nat} (hxy : x + y ≤ 4) (ht : top ≤ 24) (hL : kLe (zq φ d) lc x y) (hm : most ≤ top) (hc : kCc top x y w col) {ι : Type} {I H : ι → Prop} {lv : ι → Nat → K} (em : Nat → Nat → ι) (hI : ∀ i j, i + j ≤ most → ¬ (x ≤ i ∧ y ≤ j) → I (em i j)) (hl : ∀ i j : Nat, i + j ≤ most → lv (em i j) = kcv φ w (zrl (zrow g d x y p top lc i j) col top)) {s : zRt} (hs : kY φ w I H lv m s) : kY φ w I (fun c => H c ∨ ∃ i j, i + j ≤ most ∧ ¬ (x ≤ i ∧ y ≤ j) ∧ c = em i j) lv m (zam g d col x y p top lc w most s) := by
  have lp := zfor_ix (step := zam_out g d col x y p top lc w most) (a := 0) (s := s) (fun (n : Nat) (s : zRt) => kY φ w I (fun c => H c ∨ ∃ i j, i < n ∧ i + j ≤ most ∧ ¬ (x ≤ i ∧ y ≤ j) ∧ c = em i j) lv m s) (hs.mono (fun c hc => by
    rcases hc with hc | ⟨i, j, q, _⟩
    · exact hc
    · exact absurd q (Nat.not_lt_zero _))) (most + 1) (fun i s hi hs => by
    rw [show (0 + (i : Int)) = (i : Int) by omega]
    unfold zam_out
    rw [show ((most : Int) - (i : Int) + 1 - 0).toNat = most + 1 - i by omega]
    have lp2 := zfor_ix (step := zam_in g d col x y p top lc w i) (a := 0) (s := s) (fun (n : Nat) (s : zRt) => kY φ w I (fun c => H c ∨ ∃ i' j, (i' < i ∨ (i' = i ∧ j < n)) ∧ i' + j ≤ most ∧ ¬ (x ≤ i' ∧ y ≤ j) ∧ c = em i' j) lv m s) (hs.mono (fun c hc => by
      rcases hc with hc | ⟨i', j, q, q2⟩
      · exact Or.inl hc
      · exact Or.inr ⟨i', j, by omega, q2⟩)) (most + 1 - i) (fun j s hj hs => by
      rw [show (0 + (j : Int)) = (j : Int) by omega]
      unfold zam_in
      rw [show ((i : Int) * 25 + (j : Int)).toNat = 25 * i + j by omega]
      rcases hc.1 i j (by omega) with ⟨z1, z2, z3⟩ | ⟨z1, z2, z3⟩
      · rw [if_neg (by omega)]
        exact hs.mono (fun c hc => by
          rcases hc with hc | ⟨i', j', q, q2, q3, q4⟩
          · exact Or.inl hc
          · refine Or.inr ⟨i', j', Classical.byContradiction fun z => q3 ?_, q2, q3, q4⟩
            rw [show i' = i by omega, show j' = j by omega]
            exact ⟨z1, z2⟩)
      · rw [if_pos z2]
        obtain ⟨k1, _⟩ := krow (g := g) h hp hd hxy ht hL i j
        have st := hs.step h hp (zrl_can (by omega) k1) (hI i j (by omega) z1) (hl i j (by omega)) (zspan s.2.1 s.1 w w p (zrl (zrow g d x y p top lc i j) col top)).2 (zrow g d x y p top lc i j)
        refine kY.mono st (fun c hc => ?_)
        rcases hc with hc | ⟨i', j', q, q2, q3, q4⟩
        · exact Or.inl (Or.inl hc)
        · by_cases z : i' = i ∧ j' = j
          · rw [z.1, z.2] at q4
            exact Or.inr q4
          · exact Or.inl (Or.inr ⟨i', j', by omega, q2, q3, q4⟩))
    exact lp2.mono (fun c hc => by
      rcases hc with hc | ⟨i', j, q, q2⟩
      · exact Or.inl hc
      · exact Or.inr ⟨i', j, by omega, q2⟩))
  unfold zam
  rw [show ((most : Int) + 1 - 0).toNat = most + 1 by omega]
  exact lp.mono (fun c hc => by
    rcases hc with hc | ⟨i, j, q, q2⟩
    · exact Or.inl hc
    · exact Or.inr ⟨i, j, by omega, q, q2⟩)
/-- what a line of the second CURVE is, by TERMS -/
theorem kline {K : Type} [Lean.Grind.CommRing K] {p : Int} {φ : Int → K} (h : zKp K p φ) (hp : 2 ≤ p) {d g col : Nat → Int} (hd : zcan p d) {lc : Int} {x y top w : Nat} (hxy : x + y ≤ 4) (ht : top ≤ 24) (hL : kLe (zq φ d) lc x y) (hc : kCc top x y w col) (i j : Nat) : ∃ C : Nat → Nat → K, (∀ a b, top < a + b + (x + y) → C a b = 0) ∧ kp_w (nT (top + 1)) (kun top col (kcv φ w (zrl (zrow g d x y p top lc i j) col top))) = kp_w (nT (top + 1)) (fun a b => kc_mul (kc_t 1 i j) (zq φ g) a b + kc_mul C (zq φ d) a b) := by
  obtain ⟨k1, k2, C, c1, c2⟩ := krow (g := g) h hp hd hxy ht hL i j
  refine ⟨C, c1, kp_weq (fun a b hab => ?_)⟩
  have e := kun_rl h (row := zrow g d x y p top lc i j) ht hc k2
  exact (congrFun (congrFun e a) b).trans (c2 a b hab)
theorem kgood {K : Type} [Lean.Grind.CommRing K] {φ : Int → K} {p : Int} (h : zKp K p φ) {row col : Nat → Int} {top x y w : Nat} (ht : top ≤ 24) (hc : kCc top x y w col) (q : Nat) (hq : ∀ a b, a + b ≤ top → col (25 * a + b) ≠ q) : kcv φ w (zrl row col top) q = 0 := by
  unfold kcv
  by_cases l : q < w
  · rw [if_pos l]
    rcases zrl_sp row col ht hc q with ⟨a, b, h1, h2, _⟩ | ⟨_, h2⟩
    · exact absurd h2 (hq a b h1)
    · rw [h2, h.z]
  · rw [if_neg l]
theorem kun0 {K : Type} [Lean.Grind.CommRing K] {top x y w : Nat} {col : Nat → Int} (hc : kCc top x y w col) (v : Nat → K) : ∀ A B, A + B ≤ top → x ≤ A → y ≤ B → kun top col v A B = 0 := fun A B hAB h1 h2 => by
  unfold kun
  refine if_neg (fun z => ?_)
  rcases hc.1 A B hAB with ⟨_, _, z3⟩ | ⟨z1, _⟩
  · omega
  · exact z1 ⟨h1, h2⟩
/-- SIZE of the class: a dimension -/
theorem ksize {K : Type} [Lean.Grind.CommRing K] {p : Int} {φ : Int → K} (h : zKp K p φ) (hp : 2 ≤ p) {d e : Nat → Int} (hd : zcan p d) (h0 : ∃ i j : Nat, i + j ≤ 4 ∧ d (5 * i + j) ≠ 0) : ∃ r : Nat, kl_dim (kz_V (zq φ d) (zq φ e)) r ∧ zszP d e p = 153 - (r : Int) := by
  obtain ⟨x, y, l1, l2, l3⟩ := zflead_sp h (fun i j _ => hd _) 1 h0
  obtain ⟨w, w1, w2, w3, w4⟩ := zcolm_ok (Or.inl rfl) l2 (fun _ => 0)
  obtain ⟨col, hcol⟩ : ∃ col, col = (zcolm (16 : Nat) x y (fun _ => 0)).1 := ⟨_, rfl⟩
  rw [← hcol] at w4
  have eS : zszS d p 16 1 (fun _ => 0) = (col, (w : Int)) := by
    unfold zszS
    rw [l1]
    exact Prod.ext hcol.symm w1
  have em : zszP d e p = (w : Int) - (zam e d col x y p (16 : Nat) 1 w (16 : Nat) ((fun _ _ => 0), fun _ => 0, (fun _ => 0), (fun _ => 0), 0)).2.2.2.2 := by
    unfold zszP zsize
    rw [eS, l1]
    rfl
  have st := kam (g := e) h hp hd l2 (by decide : (16 : Nat) ≤ 24) l3 (Nat.le_refl 16) w4 (ι := Nat × Nat) (I := fun c => c.1 + c.2 ≤ 16 ∧ ¬ (x ≤ c.1 ∧ y ≤ c.2)) (H := fun _ => False) (lv := fun c => kcv φ w (zrl (zrow e d x y p (16 : Nat) 1 c.1 c.2) col (16 : Nat))) (m := 0) (s := ((fun _ _ => 0), fun _ => 0, (fun _ => 0), (fun _ => 0), 0)) (fun i j => (i, j)) (fun i j a b => ⟨a, b⟩) (fun i j _ => rfl) ⟨0, _, rfl, kX_0 φ w _, fun t ht => absurd ht (Nat.not_lt_zero _), fun c hc => hc.elim⟩
  obtain ⟨n, Y, y1, y2, y3, y4⟩ := st
  have good : ∀ t, t < n → ∀ q : Nat, (∀ a b, a + b ≤ 16 → col (25 * a + b) ≠ q) → Y t q = 0 := fun t ht q hq => by
    obtain ⟨c, _, c2⟩ := y3 t ht
    rw [c2]
    exact kgood h (by decide) w4 q hq
  obtain ⟨z1, z2⟩ := kt_line (w := w) (top := 16) (col := col) good y2.2.1
  have hb : ∀ t, t < n → kz_V (zq φ d) (zq φ e) (kp_w (nT (16 + 1)) (kun 16 col (Y t))) := fun t ht => by
    obtain ⟨c, _, c2⟩ := y3 t ht
    obtain ⟨C, _, e1⟩ := kline (g := e) h hp hd l2 (by decide : (16 : Nat) ≤ 24) l3 w4 c.1 c.2
    rw [c2]
    refine ⟨C, kc_t 1 c.1 c.2, ?_⟩
    refine Eq.trans e1 ?_
    exact congrArg (kp_w 153) (funext fun a => funext fun b => Lean.Grind.AddCommMonoid.add_comm _ _)
  have D := kd_dim h.F (by decide : (16 : Nat) ≤ 24) l3 (X := fun t => kun 16 col (Y t)) (fun t ht => kun0 w4 (Y t)) z1 (G := kz_V (zq φ d) (zq φ e)) (fun i j _ => ⟨kc_t 1 i j, fun _ _ => 0, by
    refine congrArg (kp_w 153) (funext fun a => funext fun b => ?_)
    rw [kc_zmul, ka_az]⟩) hb (fun v ⟨A, B, hv⟩ => by
    refine kGd_bd (lc := 1) l3 ?_
    rw [hv]
    exact kGd_all h hp (fun i j _ => hd _) l2 (by decide : (16 : Nat) ≤ 24) l3 (D := 16) (m := 0) (Nat.le_refl _) (Or.inr rfl) (fun l => absurd l (by decide)) (fun i j hij hn => by
      obtain ⟨C, c1, e1⟩ := kline (g := e) h hp hd l2 (by decide : (16 : Nat) ≤ 24) l3 w4 i j
      refine ⟨C, c1, ?_⟩
      rw [← e1]
      exact z2 _ (y4 (i, j) (Or.inr ⟨i, j, hij, hn, rfl⟩))) A B (fun l => absurd l (by decide)) (fun l => absurd l (by decide))) (by omega)
  refine ⟨_, D, ?_⟩
  rw [em, y1]
  have e17 : nT (16 + 1) = 153 := rfl
  rw [e17] at w2
  omega
end ZIe
