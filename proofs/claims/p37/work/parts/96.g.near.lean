section ZIg
theorem kY.monoI {K : Type} [Lean.Grind.CommRing K] {φ : Int → K} {w : Nat} {ι : Type} {I I2 H : ι → Prop} {lv : ι → Nat → K} {m : Nat} {s : zRt} (h : kY φ w I H lv m s) (hh : ∀ c, I c → I2 c) : kY φ w I2 H lv m s := by
  obtain ⟨n, y, a, b, c, d⟩ := h
  exact ⟨n, y, a, b, fun t ht => by
    obtain ⟨i, i1, i2⟩ := c t ht
    exact ⟨i, hh i i1, i2⟩, d⟩
/-- the line of one TERM -/
def klu (col : Nat → Int) (i j : Nat) : Nat → Int := zup (fun _ => 0) (col (25 * i + j)).toNat 1
theorem klu_un {K : Type} [Lean.Grind.CommRing K] {p : Int} {φ : Int → K} (h : zKp K p φ) {top x y w : Nat} {col : Nat → Int} (hc : kCc top x y w col) {i j : Nat} (hij : i + j ≤ top) (hn : ¬ (x ≤ i ∧ y ≤ j)) : kun top col (kcv φ w (klu col i j)) = kc_t 1 i j := funext fun a => funext fun b => by
  obtain ⟨c1, c2⟩ : 0 ≤ col (25 * i + j) ∧ col (25 * i + j) < w := by
    rcases hc.1 i j hij with ⟨z1, z2, _⟩ | ⟨_, z2, z3⟩
    · exact absurd ⟨z1, z2⟩ hn
    · exact ⟨z2, z3⟩
  unfold kun kcv klu kc_t
  by_cases q : a + b ≤ top ∧ 0 ≤ col (25 * a + b)
  · rw [if_pos q]
    by_cases e : a = i ∧ b = j
    · rw [if_pos e, e.1, e.2]
      show (if (col (25 * i + j)).toNat < w then φ (zup (fun _ => 0) (col (25 * i + j)).toNat 1 (col (25 * i + j)).toNat) else 0) = 1
      rw [if_pos (by omega), zup_self, h.o]
    · rw [if_neg e]
      have ne : (col (25 * a + b)).toNat ≠ (col (25 * i + j)).toNat := fun z => e (hc.2 a b i j q.1 hij q.2 (by omega))
      rw [zup_ne _ _ ne, h.z]
      split <;> rfl
  · rw [if_neg q]
    by_cases e : a = i ∧ b = j
    · rw [e.1, e.2] at q
      exact absurd ⟨hij, c1⟩ q
    · rw [if_neg e]
theorem klu_good {K : Type} [Lean.Grind.CommRing K] {p : Int} {φ : Int → K} (h : zKp K p φ) {top w : Nat} {col : Nat → Int} {i j : Nat} (hij : i + j ≤ top) (h0 : 0 ≤ col (25 * i + j)) (q : Nat) (hq : ∀ a b, a + b ≤ top → col (25 * a + b) ≠ q) : kcv φ w (klu col i j) q = 0 := by
  have := hq i j hij
  unfold kcv klu
  rw [zup_ne _ _ (show q ≠ (col (25 * i + j)).toNat by omega), h.z]
  split <;> rfl
theorem klu_can {p : Int} (hp : 2 ≤ p) (col : Nat → Int) (i j : Nat) : zcan p (klu col i j) := zcan_up (fun _ => by
  show (0 : Int) ≤ 0 ∧ (0 : Int) < p
  omega) _ (by omega)
/-- TERMS up to 8 come to the space -/
theorem knr {K : Type} [Lean.Grind.CommRing K] {p : Int} {φ : Int → K} (h : zKp K p φ) (hp : 2 ≤ p) {col : Nat → Int} {x y top w m : Nat} (ht : 8 ≤ top) (hc : kCc top x y w col) {ι : Type} {I H : ι → Prop} {lv : ι → Nat → K} (em : Nat → Nat → ι) (hI : ∀ i j, i + j ≤ 8 → ¬ (x ≤ i ∧ y ≤ j) → I (em i j)) (hl : ∀ i j : Nat, i + j ≤ 8 → lv (em i j) = kcv φ w (klu col i j)) {s : zRt} (hs : kY φ w I H lv m s) : kY φ w I (fun c => H c ∨ ∃ i j, i + j ≤ 8 ∧ ¬ (x ≤ i ∧ y ≤ j) ∧ c = em i j) lv m (znr col w p s) := by
  have lp := zfor_ix (step := znr_out col w p) (a := 0) (s := s) (fun (n : Nat) (s : zRt) => kY φ w I (fun c => H c ∨ ∃ i j, i < n ∧ i + j ≤ 8 ∧ ¬ (x ≤ i ∧ y ≤ j) ∧ c = em i j) lv m s) (hs.mono (fun c hc => by
    rcases hc with hc | ⟨i, j, q, _⟩
    · exact hc
    · exact absurd q (Nat.not_lt_zero _))) 9 (fun i s hi hs => by
    rw [show (0 + (i : Int)) = (i : Int) by omega]
    unfold znr_out
    rw [show (8 - (i : Int) + 1 - 0).toNat = 9 - i by omega]
    have lp2 := zfor_ix (step := znr_in col w p i) (a := 0) (s := s) (fun (n : Nat) (s : zRt) => kY φ w I (fun c => H c ∨ ∃ i' j, (i' < i ∨ (i' = i ∧ j < n)) ∧ i' + j ≤ 8 ∧ ¬ (x ≤ i' ∧ y ≤ j) ∧ c = em i' j) lv m s) (hs.mono (fun c hc => by
      rcases hc with hc | ⟨i', j, q, q2⟩
      · exact Or.inl hc
      · exact Or.inr ⟨i', j, by omega, q2⟩)) (9 - i) (fun j s hj hs => by
      rw [show (0 + (j : Int)) = (j : Int) by omega]
      unfold znr_in
      rw [show ((i : Int) * 25 + (j : Int)).toNat = 25 * i + j by omega]
      rcases hc.1 i j (by omega) with ⟨z1, z2, z3⟩ | ⟨z1, z2, z3⟩
      · rw [if_neg (by omega)]
        exact hs.mono (fun c hc => by
          rcases hc with hc | ⟨i', j', q, q2, q3, q4⟩
          · exact Or.inl hc
          · refine Or.inr ⟨i', j', Classical.byContradiction fun z => q3 ?_, q2, q3, q4⟩
            rw [show i' = i by omega, show j' = j by omega]
            exact ⟨z1, z2⟩)
      · rw [if_pos z2]
        have st := hs.step h hp (klu_can hp col i j) (hI i j (by omega) z1) (hl i j (by omega)) (zspan s.2.1 s.1 w w p (klu col i j)).2 s.2.2.2.1
        refine kY.mono st (fun c hc => ?_)
        rcases hc with hc | ⟨i', j', q, q2, q3, q4⟩
        · exact Or.inl (Or.inl hc)
        · by_cases z : i' = i ∧ j' = j
          · rw [z.1, z.2] at q4
            exact Or.inr q4
          · exact Or.inl (Or.inr ⟨i', j', by omega, q2, q3, q4⟩))
    exact lp2.mono (fun c hc => by
      rcases hc with hc | ⟨i', j, q, q2⟩
      · exact Or.inl hc
      · exact Or.inr ⟨i', j, by omega, q2⟩))
  unfold znr
  rw [show (9 - 0 : Int).toNat = 9 by decide]
  exact lp.mono (fun c hc => by
    rcases hc with hc | ⟨i, j, q, q2⟩
    · exact Or.inl hc
    · exact Or.inr ⟨i, j, by omega, q, q2⟩)
/-- made of both up to a DEGREE, and POLYNOMIALS up to 8 -/
def kG8 {K : Type} [Lean.Grind.CommRing K] (N1 N2 : Nat) (f g : Nat → Nat → K) (v : Nat → K) : Prop := ∃ (u : Nat → K) (P : Nat → Nat → K), kp_G 325 N1 N2 f g u ∧ (∀ i j, 8 < i + j → P i j = 0) ∧ v = fun k => u k + kp_w 325 P k
theorem kp_G_mul {K : Type} [Lean.Grind.CommRing K] {f g : Nat → Nat → K} {N1 N2 D : Nat} (hN : N1 = nT (D + 1)) {C : Nat → Nat → K} (hC : ∀ i j, D < i + j → C i j = 0) : kp_G 325 N1 N2 f g (kp_w 325 (kc_mul C f)) := by
  have s := kp_sums (kp_G_C 325 N1 N2 f g) (fun s => C (ndc s).1 (ndc s).2) (fun s => kp_w 325 (kc_mul (kc_t 1 (ndc s).1 (ndc s).2) f)) N1 (fun s hs => Or.inr (kp_G_f 325 N1 N2 f g (by rw [ncol_ndc]; exact hs)))
  refine (congrArg (kp_G 325 N1 N2 f g) (funext fun k => ?_)).mp s
  rw [kp_wsum]
  refine congrFun (congrArg (kp_w 325) (funext fun i => funext fun j => ?_)) k
  exact (kc_sum_t (P := C) (N := N1) f (fun i j hij => hC i j (Classical.byContradiction fun z => by
    have := ncol_lt (i := i) (j := j) (d := D + 1) (by omega)
    omega)) i j).symm
/-- NEAR of the class: dimensions -/
theorem knear {K : Type} [Lean.Grind.CommRing K] {p : Int} {φ : Int → K} (h : zKp K p φ) (hp : 2 ≤ p) {d e : Nat → Int} (hd : zcan p d) (he : zcan p e) {n m : Nat} (hn : (n : Int) = ztop d) (hm : (m : Int) = ztop e) : ∃ r1 r2 : Nat, kl_dim (kp_G 325 (nT (25 - n)) (nT (25 - m)) (zq φ d) (zq φ e)) r1 ∧ kl_dim (kG8 (nT (25 - n)) (nT (25 - m)) (zq φ d) (zq φ e)) r2 ∧ znrP d e p = (r2 : Int) - (r1 : Int) := by
  have tn := zT_le d
  have tm := zT_le e
  obtain ⟨f1, f2⟩ := zT_ed h (fun i j _ => hd _) hn
  obtain ⟨g1, g2⟩ := zT_ed h (fun i j _ => he _) hm
  obtain ⟨x, y, l1, l2, l3⟩ := zflead_sp h (fun i j _ => hd _) 0 (by
    obtain ⟨i, j, hij, q⟩ := f2
    have c4 : i + j ≤ 4 := by omega
    refine ⟨i, j, c4, fun z => q ?_⟩
    rw [zq_t c4, z, h.z])
  have nxy : n = x + y := by
    refine kc_ed_u f1 f2 (fun i j hij => Classical.byContradiction fun z => ?_) ⟨x, y, rfl, l3.1⟩
    have := l3.2 i j z
    rw [if_pos rfl] at this
    omega
  obtain ⟨w, w1, w2, w3, w4⟩ := zcolm_ok (Or.inr rfl) l2 (fun _ => 0)
  obtain ⟨col, hcol⟩ : ∃ col, col = (zcolm (24 : Nat) x y (fun _ => 0)).1 := ⟨_, rfl⟩
  rw [← hcol] at w4
  have eS : zszS d p 24 0 (fun _ => 0) = (col, (w : Int)) := by
    unfold zszS
    rw [l1]
    exact Prod.ext hcol.symm w1
  obtain ⟨s1, hs1⟩ : ∃ s1, s1 = zam e d col x y p (24 : Nat) 0 w ((24 - m : Nat) : Int) ((fun _ _ => 0), fun _ => 0, (fun _ => 0), (fun _ => 0), 0) := ⟨_, rfl⟩
  have en : znrP d e p = (znr col w p (s1.1, s1.2.1, s1.2.2.1, s1.2.2.2.1, 0)).2.2.2.2 := by
    unfold znrP znear znear1
    rw [eS, l1, ← hm, show (24 : Int) - (m : Int) = ((24 - m : Nat) : Int) by omega, hs1]
    rfl
  obtain ⟨lv, hlv⟩ : ∃ lv : (Bool × Nat × Nat) → Nat → K, lv = fun c => if c.1 = true then kcv φ w (klu col c.2.1 c.2.2) else kcv φ w (zrl (zrow e d x y p (24 : Nat) 0 c.2.1 c.2.2) col (24 : Nat)) := ⟨_, rfl⟩
  have lvf : ∀ i j, lv (false, i, j) = kcv φ w (zrl (zrow e d x y p (24 : Nat) 0 i j) col (24 : Nat)) := fun i j => by
    rw [hlv]
    exact if_neg Bool.false_ne_true
  have lvt : ∀ i j, lv (true, i, j) = kcv φ w (klu col i j) := fun i j => by rw [hlv]; exact if_pos rfl
  obtain ⟨I1, hI1⟩ : ∃ I1 : (Bool × Nat × Nat) → Prop, I1 = fun c => ∃ i j, i + j ≤ 24 - m ∧ ¬ (x ≤ i ∧ y ≤ j) ∧ c = (false, i, j) := ⟨_, rfl⟩
  obtain ⟨I2, hI2⟩ : ∃ I2 : (Bool × Nat × Nat) → Prop, I2 = fun c => I1 c ∨ ∃ i j, i + j ≤ 8 ∧ ¬ (x ≤ i ∧ y ≤ j) ∧ c = (true, i, j) := ⟨_, rfl⟩
  have st := kam (g := e) h hp hd l2 (by decide : (24 : Nat) ≤ 24) l3 (show 24 - m ≤ 24 by omega) w4 (I := I1) (H := fun _ => False) (lv := lv) (m := 0) (s := ((fun _ _ => 0), fun _ => 0, (fun _ => 0), (fun _ => 0), 0)) (fun i j => (false, i, j)) (fun i j a b => by rw [hI1]; exact ⟨i, j, a, b, rfl⟩) (fun i j _ => lvf i j) ⟨0, _, rfl, kX_0 φ w _, fun t ht => absurd ht (Nat.not_lt_zero _), fun c hc => hc.elim⟩
  rw [← hs1] at st
  obtain ⟨n1, Y1, y1, y2, y3, y4⟩ := st
  have st2 := knr h hp (by decide : 8 ≤ 24) w4 (I := I2) (H := I1) (lv := lv) (m := n1) (s := (s1.1, s1.2.1, s1.2.2.1, s1.2.2.2.1, 0)) (fun i j => (true, i, j)) (fun i j a b => by rw [hI2]; exact Or.inr ⟨i, j, a, b, rfl⟩) (fun i j _ => lvt i j) ⟨n1, Y1, by
    show (0 : Int) = (n1 : Int) - (n1 : Int)
    omega, y2, fun t ht => by
    obtain ⟨c, c1, c2⟩ := y3 t ht
    exact ⟨c, by rw [hI2]; exact Or.inl c1, c2⟩, fun c hc => y4 c (by
    rw [hI1] at hc
    exact Or.inr hc)⟩
  obtain ⟨n2, Y2, v1, v2, v3, v4⟩ := st2
  have good : ∀ c, I2 c → ∀ q : Nat, (∀ a b, a + b ≤ 24 → col (25 * a + b) ≠ q) → lv c q = 0 := fun c hc q hq => by
    rw [hI2] at hc
    rcases hc with hc | ⟨i, j, a, b, e⟩
    · rw [hI1] at hc
      obtain ⟨i, j, a, b, e⟩ := hc
      rw [e, lvf]
      exact kgood h (by decide) w4 q hq
    · rw [e, lvt]
      refine klu_good h (top := 24) (by omega) ?_ q hq
      rcases w4.1 i j (by omega) with ⟨z1, z2, _⟩ | ⟨_, z2, _⟩
      · exact absurd ⟨z1, z2⟩ b
      · exact z2
  have I12 : ∀ c, I1 c → I2 c := fun c hc => by rw [hI2]; exact Or.inl hc
  obtain ⟨z1, z2⟩ := kt_line (w := w) (top := 24) (col := col) (y := Y1) (n := n1) (fun t ht q hq => by
    obtain ⟨c, c1, c2⟩ := y3 t ht
    rw [c2]
    exact good c (I12 c c1) q hq) y2.2.1
  obtain ⟨u1, u2⟩ := kt_line (w := w) (top := 24) (col := col) (y := Y2) (n := n2) (fun t ht q hq => by
    obtain ⟨c, c1, c2⟩ := v3 t ht
    rw [c2]
    exact good c c1 q hq) v2.2.1
  obtain ⟨N1, hN1⟩ : ∃ N1, N1 = nT (25 - n) := ⟨_, rfl⟩
  obtain ⟨N2, hN2⟩ : ∃ N2, N2 = nT (25 - m) := ⟨_, rfl⟩
  have N1' : N1 = nT ((24 - n) + 1) := by rw [hN1, show 24 - n + 1 = 25 - n by omega]
  rw [← hN1, ← hN2]
  have W : nT (24 + 1) = 325 := rfl
  -- lines of the first kind
  have gG : ∀ i j, i + j ≤ 24 - m → kp_G 325 N1 N2 (zq φ d) (zq φ e) (kp_w 325 (kun 24 col (lv (false, i, j)))) := fun i j hij => by
    obtain ⟨C, c1, e1⟩ := kline (g := e) h hp hd l2 (by decide : (24 : Nat) ≤ 24) l3 w4 i j
    rw [lvf]
    have s := (kp_G_C 325 N1 N2 (zq φ d) (zq φ e)).2 _ _ 1 (kp_G_g 325 N1 N2 (zq φ d) (zq φ e) (i := i) (j := j) (by rw [hN2]; exact ncol_lt (by omega))) (kp_G_mul (g := zq φ e) (N2 := N2) N1' (f := zq φ d) (C := C) (fun a b hab => c1 a b (by omega)))
    refine (congrArg (kp_G 325 N1 N2 (zq φ d) (zq φ e)) ?_).mp s
    refine Eq.trans (funext fun k => ?_) e1.symm
    rw [← kp_wac]
    exact congrFun (congrArg (kp_w 325) (funext fun a => funext fun b => by rw [ka_om])) k
  have inG : ∀ {r : Nat} {Z : Nat → Nat → K}, (∀ i j, i + j ≤ 24 - m → ¬ (x ≤ i ∧ y ≤ j) → kl_sp Z r (kp_w 325 (kun 24 col (lv (false, i, j))))) → ∀ v, kp_G 325 N1 N2 (zq φ d) (zq φ e) v → kGd (zq φ d) 0 (x + y) 24 r Z v := fun {r Z} hZ v ⟨X, x1, x2⟩ => by
    rw [← x2]
    unfold kp_T
    exact kGd_all h hp (fun i j _ => hd _) l2 (by decide : (24 : Nat) ≤ 24) l3 (D := 24 - m) (m := m) (by omega) (Or.inl rfl) (fun _ => ⟨by omega, g1⟩) (fun i j hij hq => by
      obtain ⟨C, c1, e1⟩ := kline (g := e) h hp hd l2 (by decide : (24 : Nat) ≤ 24) l3 w4 i j
      refine ⟨C, c1, ?_⟩
      rw [← e1]
      have := hZ i j hij hq
      rw [lvf] at this
      exact this) _ _ (fun _ i j hij => by
      unfold kUn
      refine if_neg (fun z => ?_)
      have := ncol_ge (i := i) (j := j) (d := 25 - n) (by omega)
      omega) (fun _ i j hij => by
      unfold kUn
      refine if_neg (fun z => ?_)
      have := ncol_ge (i := i) (j := j) (d := 25 - m) (by omega)
      omega)
  have D1 := kd_dim h.F (by decide : (24 : Nat) ≤ 24) l3 (X := fun t => kun 24 col (Y1 t)) (fun t ht => kun0 w4 (Y1 t)) z1 (G := kp_G 325 N1 N2 (zq φ d) (zq φ e)) (fun i j hij => kp_G_f 325 N1 N2 _ _ (by rw [hN1]; exact ncol_lt (by omega))) (fun t ht => by
    obtain ⟨c, c1, c2⟩ := y3 t ht
    rw [hI1] at c1
    obtain ⟨i, j, a, b, e⟩ := c1
    rw [c2, e]
    exact gG i j a) (fun v hv => kGd_bd l3 (inG (fun i j a b => z2 _ (y4 (false, i, j) (Or.inr ⟨i, j, a, b, rfl⟩))) v hv)) (by omega)
  have G0 := (kp_G_C 325 N1 N2 (zq φ d) (zq φ e)).1
  have D2 := kd_dim h.F (by decide : (24 : Nat) ≤ 24) l3 (X := fun t => kun 24 col (Y2 t)) (fun t ht => kun0 w4 (Y2 t)) u1 (G := kG8 N1 N2 (zq φ d) (zq φ e)) (fun i j hij => ⟨_, fun _ _ => 0, kp_G_f 325 N1 N2 _ _ (i := i) (j := j) (by rw [hN1]; exact ncol_lt (by omega)), fun _ _ _ => rfl, funext fun k => by
    rw [kp_wz, ka_az]
    rfl⟩) (fun t ht => by
    obtain ⟨c, c1, c2⟩ := v3 t ht
    rw [hI2] at c1
    rcases c1 with c1 | ⟨i, j, a, b, e⟩
    · rw [hI1] at c1
      obtain ⟨i, j, a, b, e⟩ := c1
      rw [c2, e]
      exact ⟨_, fun _ _ => 0, gG i j a, fun _ _ _ => rfl, funext fun k => by
        rw [kp_wz, ka_az]
        rfl⟩
    · refine ⟨_, kc_t 1 i j, G0, fun i' j' hij => if_neg (by omega), funext fun k => ?_⟩
      rw [c2, e, lvt, klu_un h w4 (by omega) b, ka_za]
      rfl) (fun v ⟨u, P, p1, p2, p3⟩ => kGd_bd l3 (by
    have GC := kGd_C (zq φ d) 0 (x + y) 24 n2 (fun t => kp_w (nT (24 + 1)) (kun 24 col (Y2 t)))
    have s1 := inG (r := n2) (Z := fun t => kp_w (nT (24 + 1)) (kun 24 col (Y2 t))) (fun i j a b => u2 _ (v4 (false, i, j) (Or.inl (by rw [hI1]; exact ⟨i, j, a, b, rfl⟩)))) u p1
    obtain ⟨β, C1, b1, b2, b3, b4⟩ := kdec h hp (fun i j _ => hd _) l2 (by decide : (24 : Nat) ≤ 24) l3 (D := 8) (by decide) (Or.inl rfl) P p2
    have sm := kp_sums GC (fun s => β (ndc s).1 (ndc s).2) (fun s => kp_w 325 (kc_t 1 (ndc s).1 (ndc s).2)) (nT (8 + 1)) (fun s hs => by
      have dg := ndc_dg hs
      by_cases q : x ≤ (ndc s).1 ∧ y ≤ (ndc s).2
      · exact Or.inl (b2 _ _ (by omega) q.1 q.2)
      · refine Or.inr (kGd_u ?_)
        have z := u2 _ (v4 (true, (ndc s).1, (ndc s).2) (Or.inr ⟨_, _, by omega, q, rfl⟩))
        rw [lvt, klu_un h w4 (by omega) q] at z
        exact z)
    have s2 : kGd (zq φ d) 0 (x + y) 24 n2 (fun t => kp_w (nT (24 + 1)) (kun 24 col (Y2 t))) (kp_w 325 β) := by
      refine (congrArg (kGd (zq φ d) 0 (x + y) 24 n2 (fun t => kp_w (nT (24 + 1)) (kun 24 col (Y2 t)))) (funext fun k => ?_)).mp sm
      rw [kp_wsum]
      refine congrFun (congrArg (kp_w 325) (funext fun i => funext fun j => ?_)) k
      by_cases q : ncol i j < nT (8 + 1)
      · rw [ka_s_one (k := ncol i j) _ q (fun t ht hne => by
          unfold kc_t
          rw [if_neg (fun z => hne (by rw [z.1, z.2, ncol_ndc])), ka_mz]), ndc_ncol]
        unfold kc_t
        rw [if_pos ⟨rfl, rfl⟩]
        exact Lean.Grind.Semiring.mul_one _
      · rw [b3 i j (Classical.byContradiction fun z => q (ncol_lt (by omega)))]
        exact ka_s_zero _ (fun t ht => by
          unfold kc_t
          rw [if_neg (fun z => q (by rw [z.1, z.2, ncol_ndc]; exact ht)), ka_mz])
    have s3 := kGd_F (F := zq φ d) (lc := 0) (L := x + y) (top := 24) (n := n2) (Z := fun t => kp_w (nT (24 + 1)) (kun 24 col (Y2 t))) C1 (fun _ i j hij => b1 i j (by omega))
    have s4 := GC.2 _ _ 1 s1 (GC.2 _ _ 1 s2 s3)
    rw [p3]
    refine (congrArg (kGd (zq φ d) 0 (x + y) 24 n2 (fun t => kp_w (nT (24 + 1)) (kun 24 col (Y2 t)))) (funext fun k => ?_)).mp s4
    show u k + 1 * (kp_w 325 β k + 1 * kp_w 325 (kc_mul C1 (zq φ d)) k) = u k + kp_w 325 P k
    rw [← kp_wac, ka_om]
    refine congrArg (fun z => u k + z) (congrFun (kp_weq (top := 24) (fun i j hij => ?_)) k)
    show β i j + 1 * kc_mul C1 (zq φ d) i j = P i j
    rw [b4 i j hij, ka_om])) (by omega)
  rw [show 24 + 1 - (x + y) = 25 - n by omega, ← hN1] at D1 D2
  refine ⟨N1 + n1, N1 + n2, D1, D2, ?_⟩
  rw [en, v1]
  omega
end ZIg
