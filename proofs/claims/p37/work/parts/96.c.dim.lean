section ZIc
/-- only one multiple is 0 at all that the LEAD divides -/
theorem kuq {K : Type} [Lean.Grind.CommRing K] (hK : ka_F K) {F C : Nat → Nat → K} {lc : Int} {x y top : Nat} (ht : top ≤ 24) (hL : kLe F lc x y) (hC : ∀ i j, top < i + j + (x + y) → C i j = 0) (hz : ∀ A B, A + B ≤ top → x ≤ A → y ≤ B → kc_mul C F A B = 0) : ∀ m i j : Nat, (if lc = 0 then 100 - (i + j) else i + j) * 100 + (100 - i) = m → C i j = 0 := fun m => by
  induction m using Nat.strongRecOn with
  | _ m ih =>
    intro i j hm
    by_cases q : top < i + j + (x + y)
    · exact hC i j q
    · have e := hz (i + x) (j + y) (by omega) (by omega) (by omega)
      have low : ∀ a b, a ≤ i + x → b ≤ j + y → ¬ (a = i ∧ b = j) → C a b * F (i + x - a) (j + y - b) = 0 := fun a b ha hb hne => by
        by_cases z : F (i + x - a) (j + y - b) = 0
        · rw [z, ka_mz]
        · have l := hL.2 _ _ z
          rw [ih ((if lc = 0 then 100 - (a + b) else a + b) * 100 + (100 - a)) (by
            by_cases l0 : lc = 0
            · rw [if_pos l0] at l hm ⊢
              omega
            · rw [if_neg l0] at l hm ⊢
              omega) a b rfl, ka_zm]
      unfold kc_mul at e
      rw [ka_s_one (k := i) (i + x + 1) (by omega) (fun a ha hne => ka_s_zero _ (fun b hb => low a b (by omega) (by omega) (fun z => hne z.1))), ka_s_one (k := j) (j + y + 1) (by omega) (fun b hb hne => low i b (by omega) (by omega) (fun z => hne z.2)), show i + x - i = x by omega, show j + y - j = y by omega] at e
      rcases hK.dom _ _ e with z | z
      · exact z
      · exact absurd z hL.1
theorem kp_wsum {K : Type} [Lean.Grind.CommRing K] {W : Nat} (c : Nat → K) (F : Nat → Nat → Nat → K) (m k : Nat) : ka_s (fun t => c t * kp_w W (F t) k) m = kp_w W (fun i j => ka_s (fun t => c t * F t i j) m) k := by
  unfold kp_w kvec
  by_cases q : k < W
  · rw [if_pos q]
    exact ka_s_congr _ (fun t _ => by rw [if_pos q])
  · rw [if_neg q]
    exact ka_s_zero _ (fun t _ => by rw [if_neg q, ka_mz])
theorem kp_weq {K : Type} [Lean.Grind.CommRing K] {top : Nat} {F G : Nat → Nat → K} (h : ∀ i j, i + j ≤ top → F i j = G i j) : kp_w (nT (top + 1)) F = kp_w (nT (top + 1)) G := funext fun k => by
  unfold kp_w kvec
  by_cases q : k < nT (top + 1)
  · rw [if_pos q, if_pos q, h _ _ (by have := ndc_dg q; omega)]
  · rw [if_neg q, if_neg q]
theorem kp_wat {K : Type} [Lean.Grind.CommRing K] {top : Nat} (F : Nat → Nat → K) {i j : Nat} (h : i + j ≤ top) : kp_w (nT (top + 1)) F (ncol i j) = F i j := by
  unfold kp_w kvec
  rw [if_pos (ncol_lt (by omega)), ndc_ncol]
/-- multiples of the divisor, and what has columns -/
theorem kd_dim {K : Type} [Lean.Grind.CommRing K] (hK : ka_F K) {F : Nat → Nat → K} {lc : Int} {x y top n : Nat} (ht : top ≤ 24) (hL : kLe F lc x y) {X : Nat → Nat → Nat → K} (hX : ∀ t, t < n → ∀ A B, A + B ≤ top → x ≤ A → y ≤ B → X t A B = 0) (hf : kl_fr (fun t => kp_w (nT (top + 1)) (X t)) n) {G : (Nat → K) → Prop} (ha : ∀ i j, i + j + (x + y) ≤ top → G (kp_w (nT (top + 1)) (kc_mul (kc_t 1 i j) F))) (hb : ∀ t, t < n → G (kp_w (nT (top + 1)) (X t))) (hc : ∀ v, G v → ∃ (C : Nat → Nat → K) (u : Nat → K), (∀ i j, top < i + j + (x + y) → C i j = 0) ∧ kl_sp (fun t => kp_w (nT (top + 1)) (X t)) n u ∧ v = fun k => kp_w (nT (top + 1)) (kc_mul C F) k + u k) (hxy : x + y ≤ top) : kl_dim G (nT (top + 1 - (x + y)) + n) := by
  obtain ⟨W, hW⟩ : ∃ W, W = nT (top + 1) := ⟨_, rfl⟩
  obtain ⟨N1, hN1⟩ : ∃ N1, N1 = nT (top + 1 - (x + y)) := ⟨_, rfl⟩
  rw [← hN1]
  have lt1 : ∀ i j, ncol i j < N1 ↔ i + j + (x + y) ≤ top := fun i j => by
    constructor
    · intro z
      refine Classical.byContradiction fun q => ?_
      have := ncol_ge (i := i) (j := j) (d := top + 1 - (x + y)) (by omega)
      omega
    · intro z
      rw [hN1]
      exact ncol_lt (by omega)
  have sF : ∀ (a : Nat → K) k, ka_s (fun s => a s * kp_w W (kc_mul (kc_t 1 (ndc s).1 (ndc s).2) F) k) N1 = kp_w W (kc_mul (kUn a 0 N1) F) k := fun a k => by
    rw [kp_wsum]
    refine congrFun (congrArg (kp_w W) (funext fun i => funext fun j => ?_)) k
    rw [kc_sum_t (P := kUn a 0 N1) (N := N1) F (fun i j hij => by unfold kUn; exact if_neg (by omega))]
    refine ka_s_congr _ (fun s hs => ?_)
    unfold kUn
    rw [ncol_ndc, if_pos hs, Nat.zero_add]
  refine ⟨fun s => if s < N1 then kp_w W (kc_mul (kc_t 1 (ndc s).1 (ndc s).2) F) else kp_w W (X (s - N1)), fun a ha' t ht' => ?_, fun s hs => ?_, fun v hv => ?_⟩
  · have sum : ∀ k, kp_w W (kc_mul (kUn a 0 N1) F) k + ka_s (fun s => a (N1 + s) * kp_w W (X s) k) n = 0 := fun k => by
      have e : ka_s (fun s => a s * (if s < N1 then kp_w W (kc_mul (kc_t 1 (ndc s).1 (ndc s).2) F) else kp_w W (X (s - N1))) k) (N1 + n) = 0 := ha' k
      rw [ka_s_split, ka_s_congr (g := fun s => a s * kp_w W (kc_mul (kc_t 1 (ndc s).1 (ndc s).2) F) k) N1 (fun s hs => by rw [if_pos hs]), ka_s_congr (g := fun s => a (N1 + s) * kp_w W (X s) k) n (fun s hs => by rw [if_neg (by omega), show N1 + s - N1 = s by omega]), sF] at e
      exact e
    have C0 : ∀ i j, kUn a 0 N1 i j = 0 := fun i j => kuq hK ht hL (C := kUn a 0 N1) (fun i j hij => by
      unfold kUn
      refine if_neg (fun z => ?_)
      have := (lt1 i j).1 z
      omega) (fun A B hAB h1 h2 => by
      have e := sum (ncol A B)
      rw [hW, kp_wat _ hAB, ka_s_zero n (fun s hs => by rw [kp_wat _ hAB, hX s hs A B hAB h1 h2, ka_mz]), ka_az] at e
      exact e) _ i j rfl
    have a1 : ∀ s, s < N1 → a s = 0 := fun s hs => by
      have := C0 (ndc s).1 (ndc s).2
      unfold kUn at this
      rw [ncol_ndc, if_pos hs, Nat.zero_add] at this
      exact this
    by_cases q : t < N1
    · exact a1 t q
    · have z := hf (fun s => a (N1 + s)) (fun k => by
        have e := sum k
        have e2 : kp_w W (kc_mul (kUn a 0 N1) F) k = 0 := by
          rw [show kUn a 0 N1 = fun _ _ => 0 from funext fun i => funext fun j => C0 i j]
          unfold kp_w kvec
          split
          · exact kc_zmul F _ _
          · rfl
        rw [e2, ka_za, hW] at e
        exact e) (t - N1) (by omega)
      rw [show N1 + (t - N1) = t by omega] at z
      exact z
  · show G (if s < N1 then kp_w W (kc_mul (kc_t 1 (ndc s).1 (ndc s).2) F) else kp_w W (X (s - N1)))
    by_cases q : s < N1
    · rw [if_pos q, hW]
      refine ha _ _ ((lt1 _ _).1 ?_)
      rw [ncol_ndc]
      exact q
    · rw [if_neg q, hW]
      exact hb _ (by omega)
  · obtain ⟨C, u, c1, ⟨b, hb'⟩, c3⟩ := hc v hv
    refine ⟨fun s => if s < N1 then C (ndc s).1 (ndc s).2 else b (s - N1), fun k => ?_⟩
    show v k = ka_s (fun s => (if s < N1 then C (ndc s).1 (ndc s).2 else b (s - N1)) * (if s < N1 then kp_w W (kc_mul (kc_t 1 (ndc s).1 (ndc s).2) F) else kp_w W (X (s - N1))) k) (N1 + n)
    rw [ka_s_split, ka_s_congr (g := fun s => C (ndc s).1 (ndc s).2 * kp_w W (kc_mul (kc_t 1 (ndc s).1 (ndc s).2) F) k) N1 (fun s hs => by rw [if_pos hs, if_pos hs]), ka_s_congr (g := fun s => b s * kp_w W (X s) k) n (fun s hs => by rw [if_neg (by omega), if_neg (by omega), show N1 + s - N1 = s by omega]), c3]
    show kp_w (nT (top + 1)) (kc_mul C F) k + u k = _
    rw [hb' k, ← hW]
    refine congr (congrArg _ ?_) rfl
    rw [sF (fun s => C (ndc s).1 (ndc s).2) k]
    refine congrFun (congrArg (kp_w W) (congrArg (fun c => kc_mul c F) (funext fun i => funext fun j => ?_))) k
    unfold kUn
    by_cases q : ncol i j < N1
    · rw [if_pos q, Nat.zero_add]
      show C i j = C (ndc (ncol i j)).1 (ndc (ncol i j)).2
      rw [ndc_ncol]
    · rw [if_neg q]
      exact c1 i j (Classical.byContradiction fun z => q ((lt1 i j).2 (by omega)))
/-- the rows of the class's space, and free lines -/
def kX {K : Type} [Lean.Grind.CommRing K] (φ : Int → K) (w : Nat) (y : Nat → Nat → K) (n : Nat) (Kn : Nat → Int) (R : Nat → Nat → Int) : Prop := ke_E φ w Kn R ∧ kl_fr y n ∧ (∀ t, t < n → ∀ k, w ≤ k → y t k = 0) ∧ ∀ v : Nat → K, (∀ k, w ≤ k → v k = 0) → (ke_S φ w w Kn R v ↔ kl_sp y n v)
theorem kX_0 {K : Type} [Lean.Grind.CommRing K] (φ : Int → K) (w : Nat) (R : Nat → Nat → Int) : kX φ w (fun _ _ => (0 : K)) 0 (fun _ => 0) R := ⟨fun q _ hq => absurd rfl hq, fun a _ t ht => absurd ht (Nat.not_lt_zero _), fun t ht => absurd ht (Nat.not_lt_zero _), fun v hv => ⟨fun ⟨α, a1, a2⟩ => ⟨fun _ => 0, fun k => by
  by_cases q : k < w
  · rw [a2 k q]
    exact ka_s_zero _ (fun t _ => by rw [a1 t rfl, ka_zm])
  · exact hv k (by omega)⟩, fun ⟨a, ha⟩ => ⟨fun _ => 0, fun _ _ => rfl, fun k _ => by
  rw [ha k]
  exact (ka_s_zero _ (fun t _ => ka_zm _)).symm⟩⟩⟩
def kcv {K : Type} [Lean.Grind.CommRing K] (φ : Int → K) (w : Nat) (c : Nat → Int) : Nat → K := fun k => if k < w then φ (c k) else 0
theorem kr_3 {K : Type} [Lean.Grind.CommRing K] (v a c : K) : v = v + a * c + (-a) * c := by grind
/-- one line more -/
theorem kX_step {K : Type} [Lean.Grind.CommRing K] {p : Int} {φ : Int → K} (h : zKp K p φ) (hp : 2 ≤ p) {w n : Nat} {y : Nat → Nat → K} {Kn : Nat → Int} {R : Nat → Nat → Int} (hX : kX φ w y n Kn R) {c : Nat → Int} (hc : zcan p c) : (zsp1 Kn R w w p c = 0 ∧ kl_sp y n (kcv φ w c) ∧ kX φ w y n (zspK Kn R w w p c) (zspR Kn R w w p c)) ∨ (zsp1 Kn R w w p c = 1 ∧ kX φ w (fun t => if t < n then y t else kcv φ w c) (n + 1) (zspK Kn R w w p c) (zspR Kn R w w p c)) := by
  obtain ⟨x1, x2, x3, x4⟩ := hX
  obtain ⟨n1, n2, n3, n4, n5, n6, n7⟩ := ke_next h hp (Nat.le_refl w) x1 hc
  have cv0 : ∀ k, w ≤ k → kcv φ w c k = 0 := fun k hk => if_neg (by omega)
  have cvS : ∀ Kn R, ke_S φ w w Kn R (fun k => φ (c k)) ↔ ke_S φ w w Kn R (kcv φ w c) := fun Kn R => ⟨fun z => ke_S_congr z (fun k hk => if_pos hk), fun z => ke_S_congr z (fun k hk => (if_pos hk).symm)⟩
  rcases n5 with z | z
  · obtain ⟨e1, e2⟩ := n6 z
    refine Or.inl ⟨z, (x4 _ cv0).1 ((cvS _ _).1 (n4.1 z)), ?_⟩
    rw [e1, e2]
    exact ⟨x1, x2, x3, x4⟩
  · have ns : ¬ kl_sp y n (kcv φ w c) := fun q => by
      have := n4.2 ((cvS _ _).2 ((x4 _ cv0).2 q))
      omega
    refine Or.inr ⟨z, n1, kl_fr_s h.F (kl_fr_congr x2 (fun t ht => (if_pos ht).symm)) (fun q => ns ?_), fun t ht k hk => ?_, fun v hv => ⟨fun q => ?_, fun q => ?_⟩⟩
    · have q' : kl_sp (fun t => if t < n then y t else kcv φ w c) n (if n < n then y n else kcv φ w c) := q
      rw [if_neg (Nat.lt_irrefl _)] at q'
      exact kl_sp_congr q' (fun t ht => if_pos ht)
    · show (if t < n then y t else kcv φ w c) k = 0
      by_cases l : t < n
      · rw [if_pos l]; exact x3 t l k hk
      · rw [if_neg l]; exact cv0 k hk
    · obtain ⟨a, ha⟩ := n7 w v (Nat.le_refl _) q
      have s1 : kl_sp y n (fun k => v k + a * kcv φ w c k) := (x4 _ (fun k hk => by rw [hv k hk, cv0 k hk, ka_mz, ka_az])).1 (ke_S_congr ha (fun k hk => by
        show v k + a * (if k < w then φ (c k) else 0) = _
        rw [if_pos hk]))
      have s2 : kl_sp (fun t => if t < n then y t else kcv φ w c) (n + 1) (fun k => v k + a * kcv φ w c k) := kl_sp_mono (kl_sp_congr s1 (fun t ht => (if_pos ht).symm)) (by omega)
      have s3 : kl_sp (fun t => if t < n then y t else kcv φ w c) (n + 1) (kcv φ w c) := by
        have := kl_sp_own (x := fun t => if t < n then y t else kcv φ w c) (n := n + 1) (t := n) (by omega)
        have this : kl_sp (fun t => if t < n then y t else kcv φ w c) (n + 1) (if n < n then y n else kcv φ w c) := this
        rw [if_neg (Nat.lt_irrefl _)] at this
        exact this
      have s4 := kl_sp_add s2 s3 (-a)
      have e : v = fun k => (v k + a * kcv φ w c k) + (-a) * kcv φ w c k := funext fun k => kr_3 _ _ _
      rw [e]
      exact s4
    · obtain ⟨a, ha⟩ := q
      have s1 : ke_S φ w w Kn R (fun k => ka_s (fun t => a t * y t k) n) := (x4 _ (fun k hk => ka_s_zero _ (fun t ht => by rw [x3 t ht k hk, ka_mz]))).2 ⟨a, fun k => rfl⟩
      have s2 := ke_S_add (n2 w _ (Nat.le_refl _) s1) ((cvS _ _).1 n3) (a n)
      refine ke_S_congr s2 (fun k hk => ?_)
      rw [ha k]
      show ka_s (fun t => a t * (if t < n then y t else kcv φ w c) k) n + a n * (if n < n then y n else kcv φ w c) k = _
      rw [if_neg (Nat.lt_irrefl _), ka_s_congr (g := fun t => a t * y t k) n (fun t ht => by rw [if_pos ht])]
/-- the space while lines come -/
def kY {K : Type} [Lean.Grind.CommRing K] (φ : Int → K) (w : Nat) {ι : Type} (I H : ι → Prop) (lv : ι → Nat → K) (m : Nat) (s : zRt) : Prop := ∃ (n : Nat) (y : Nat → Nat → K), s.2.2.2.2 = (n : Int) - (m : Int) ∧ kX φ w y n s.2.1 s.1 ∧ (∀ t, t < n → ∃ c, I c ∧ y t = lv c) ∧ ∀ c, H c → kl_sp y n (lv c)
theorem kY.mono {K : Type} [Lean.Grind.CommRing K] {φ : Int → K} {w : Nat} {ι : Type} {I H H2 : ι → Prop} {lv : ι → Nat → K} {m : Nat} {s : zRt} (h : kY φ w I H lv m s) (hh : ∀ c, H2 c → H c) : kY φ w I H2 lv m s := by
  obtain ⟨n, y, a, b, c, d⟩ := h
  exact ⟨n, y, a, b, c, fun i hi => d i (hh i hi)⟩
theorem kY.step {K : Type} [Lean.Grind.CommRing K] {p : Int} {φ : Int → K} (h : zKp K p φ) (hp : 2 ≤ p) {w : Nat} {ι : Type} {I H : ι → Prop} {lv : ι → Nat → K} {m : Nat} {s : zRt} (hY : kY φ w I H lv m s) {c : Nat → Int} (hc : zcan p c) {i : ι} (hi : I i) (hl : lv i = kcv φ w c) (l r : Nat → Int) : kY φ w I (fun c => H c ∨ c = i) lv m (zspR s.2.1 s.1 w w p c, zspK s.2.1 s.1 w w p c, l, r, s.2.2.2.2 + zsp1 s.2.1 s.1 w w p c) := by
  obtain ⟨n, y, y1, y2, y3, y4⟩ := hY
  rcases kX_step h hp y2 hc with ⟨z1, z2, z3⟩ | ⟨z1, z3⟩
  · refine ⟨n, y, ?_, z3, y3, fun c hc => ?_⟩
    · show s.2.2.2.2 + _ = _
      rw [z1, y1, Int.add_zero]
    · rcases hc with hc | hc
      · exact y4 c hc
      · rw [hc, hl]; exact z2
  · refine ⟨n + 1, _, ?_, z3, fun t ht => ?_, fun c' hcc => ?_⟩
    · show s.2.2.2.2 + _ = _
      rw [z1, y1]
      omega
    · by_cases q : t < n
      · obtain ⟨c, c1, c2⟩ := y3 t q
        exact ⟨c, c1, by rw [← c2]; exact if_pos q⟩
      · exact ⟨i, hi, by rw [hl]; exact if_neg q⟩
    · rcases hcc with hc' | hc'
      · exact kl_sp_mono (kl_sp_congr (y4 c' hc') (fun t ht => (if_pos ht).symm)) (by omega)
      · rw [hc', hl]
        have := kl_sp_own (x := fun t => if t < n then y t else kcv φ w c) (n := n + 1) (t := n) (by omega)
        have this : kl_sp (fun t => if t < n then y t else kcv φ w c) (n + 1) (if n < n then y n else kcv φ w c) := this
        rw [if_neg (Nat.lt_irrefl _)] at this
        exact this
theorem kun_sum {K : Type} [Lean.Grind.CommRing K] (top : Nat) (col : Nat → Int) (a : Nat → K) (v : Nat → Nat → K) (n : Nat) (i j : Nat) : kun top col (fun q => ka_s (fun t => a t * v t q) n) i j = ka_s (fun t => a t * kun top col (v t) i j) n := by
  unfold kun
  by_cases c : i + j ≤ top ∧ 0 ≤ col (25 * i + j)
  · rw [if_pos c]
    exact ka_s_congr _ (fun t _ => by rw [if_pos c])
  · rw [if_neg c]
    exact (ka_s_zero _ (fun t _ => by rw [if_neg c, ka_mz])).symm
/-- lines of columns are lines of TERMS -/
theorem kt_line {K : Type} [Lean.Grind.CommRing K] {top w n : Nat} {col : Nat → Int} {y : Nat → Nat → K} (hg : ∀ t, t < n → ∀ q : Nat, (∀ a b, a + b ≤ top → col (25 * a + b) ≠ q) → y t q = 0) (hy : kl_fr y n) : kl_fr (fun t => kp_w (nT (top + 1)) (kun top col (y t))) n ∧ ∀ v, kl_sp y n v → kl_sp (fun t => kp_w (nT (top + 1)) (kun top col (y t))) n (kp_w (nT (top + 1)) (kun top col v)) := by
  refine ⟨fun a ha t ht => hy a (fun q => ?_) t ht, fun v ⟨a, ha⟩ => ⟨a, fun k => ?_⟩⟩
  · by_cases c : ∀ a b, a + b ≤ top → col (25 * a + b) ≠ q
    · exact ka_s_zero _ (fun t ht => by rw [hg t ht q c, ka_mz])
    · obtain ⟨i, c⟩ := Classical.not_forall.1 c
      obtain ⟨j, c⟩ := Classical.not_forall.1 c
      have hij : i + j ≤ top := Classical.byContradiction fun z => c (fun y => absurd y z)
      have hq : col (25 * i + j) = q := Classical.byContradiction fun z => c (fun _ => z)
      have e := ha (ncol i j)
      rw [kp_wsum, kp_wat _ hij] at e
      rw [← e]
      refine ka_s_congr _ (fun t _ => ?_)
      unfold kun
      rw [if_pos ⟨hij, by omega⟩, hq, Int.toNat_natCast]
  · rw [kp_wsum]
    refine congrFun (congrArg (kp_w (nT (top + 1))) (funext fun i => funext fun j => ?_)) k
    rw [← kun_sum]
    exact congrFun (congrFun (congrArg (kun top col) (funext fun q => ha q)) i) j
end ZIc
