section ZIa
/-- a POLYNOMIAL, moved, comes to a row: place by place -/
theorem zatr_sp {row d : Nat → Int} {r u top : Nat} {o p : Int} (hp : 0 < p) (hr : zcan p row) (ht : top ≤ 24) {A B : Nat} (hA : A < 25) (hB : B < 25) : zatr row d r u o p top (25 * A + B) = if r ≤ A ∧ u ≤ B ∧ A - r + (B - u) ≤ 4 ∧ A + B ≤ top then (row (25 * A + B) + o * d (5 * (A - r) + (B - u))) % p else row (25 * A + B) := by
  have inn : ∀ (i : Nat) (X : Nat → Int), i ≤ 4 → i + r ≤ top → zcan p X → zcan p (zatr_out d r u o p top i X) ∧ ∀ A B : Nat, B < 25 → zatr_out d r u o p top i X (25 * A + B) = if A = i + r ∧ u ≤ B ∧ i + (B - u) ≤ 4 ∧ A + B ≤ top then (X (25 * A + B) + o * d (5 * i + (B - u))) % p else X (25 * A + B) := fun i X hi hir hX => by
    obtain ⟨m, hm⟩ : ∃ m : Nat, (min (4 - (i : Int)) ((top : Int) - ((i : Int) + (r : Int)) - (u : Int)) + 1 - 0).toNat = m ∧ ∀ j : Nat, j < m ↔ i + j ≤ 4 ∧ i + r + (j + u) ≤ top := ⟨_, rfl, fun j => by omega⟩
    have f := zfor_ix (step := zatr_in d r u o p i) (a := 0) (s := X) (fun (n : Nat) (Y : Nat → Int) => zcan p Y ∧ ∀ A B : Nat, B < 25 → Y (25 * A + B) = if A = i + r ∧ u ≤ B ∧ B - u < n then (X (25 * A + B) + o * d (5 * i + (B - u))) % p else X (25 * A + B)) ⟨hX, fun A B hB => by rw [if_neg (by omega)]⟩ m (fun n Y hn hY => by
      have hn2 := (hm.2 n).1 hn
      have e0 : Y (25 * (i + r) + (n + u)) = X (25 * (i + r) + (n + u)) := by rw [hY.2 (i + r) (n + u) (by omega), if_neg (by omega)]
      unfold zatr_in
      rw [show ((i : Int) * 5 + (0 + (n : Int))).toNat = 5 * i + n by omega, show ((((i : Int) + (r : Int)) * 25 + (0 + (n : Int))) + (u : Int)).toNat = 25 * (i + r) + (n + u) by omega]
      by_cases q : d (5 * i + n) = 0
      · rw [if_neg (fun z => z q)]
        refine ⟨hY.1, fun A B hB => ?_⟩
        rw [hY.2 A B hB]
        by_cases e : A = i + r ∧ u ≤ B ∧ B - u = n
        · rw [if_neg (by omega), if_pos (by omega), e.2.2, q, Int.mul_zero, Int.add_zero, Int.emod_eq_of_lt (hX _).1 (hX _).2]
        · by_cases e2 : A = i + r ∧ u ≤ B ∧ B - u < n
          · rw [if_pos e2, if_pos (by omega)]
          · rw [if_neg e2, if_neg (by omega)]
      · rw [if_pos q]
        refine ⟨zcan_up hY.1 _ (zmr _ hp), fun A B hB => ?_⟩
        rw [zup_ap, e0]
        by_cases e : A = i + r ∧ u ≤ B ∧ B - u = n
        · rw [if_pos (show 25 * A + B = 25 * (i + r) + (n + u) by omega), if_pos (show A = i + r ∧ u ≤ B ∧ B - u < n + 1 by omega), show 25 * A + B = 25 * (i + r) + (n + u) by omega, e.2.2]
        · rw [if_neg (show ¬ 25 * A + B = 25 * (i + r) + (n + u) by omega), hY.2 A B hB]
          by_cases e2 : A = i + r ∧ u ≤ B ∧ B - u < n
          · rw [if_pos e2, if_pos (by omega)]
          · rw [if_neg e2, if_neg (by omega)])
    unfold zatr_out
    rw [hm.1]
    refine ⟨f.1, fun A B hB => ?_⟩
    rw [f.2 A B hB]
    have hq := hm.2 (B - u)
    by_cases e2 : A = i + r ∧ u ≤ B ∧ B - u < m
    · rw [if_pos e2, if_pos (by omega)]
    · rw [if_neg e2, if_neg (by omega)]
  obtain ⟨m, hm⟩ : ∃ m : Nat, (min 4 ((top : Int) - (r : Int)) + 1 - 0).toNat = m ∧ ∀ j : Nat, j < m ↔ j ≤ 4 ∧ j + r ≤ top := ⟨_, rfl, fun j => by omega⟩
  have out := zfor_ix (step := zatr_out d r u o p top) (a := 0) (s := row) (fun (n : Nat) (Y : Nat → Int) => zcan p Y ∧ ∀ A B : Nat, B < 25 → Y (25 * A + B) = if r ≤ A ∧ A - r < n ∧ u ≤ B ∧ A - r + (B - u) ≤ 4 ∧ A + B ≤ top then (row (25 * A + B) + o * d (5 * (A - r) + (B - u))) % p else row (25 * A + B)) ⟨hr, fun A B hB => by rw [if_neg (by omega)]⟩ m (fun n Y hn hY => by
    have hn2 := (hm.2 n).1 hn
    rw [show (0 + (n : Int)) = (n : Int) by omega]
    obtain ⟨i1, i2⟩ := inn n Y hn2.1 hn2.2 hY.1
    refine ⟨i1, fun A B hB => ?_⟩
    rw [i2 A B hB]
    by_cases e : A = n + r ∧ u ≤ B ∧ n + (B - u) ≤ 4 ∧ A + B ≤ top
    · rw [if_pos e, if_pos (by omega), hY.2 A B hB, if_neg (by omega), show A - r = n by omega]
    · rw [if_neg e, hY.2 A B hB]
      by_cases e2 : r ≤ A ∧ A - r < n ∧ u ≤ B ∧ A - r + (B - u) ≤ 4 ∧ A + B ≤ top
      · rw [if_pos e2, if_pos (by omega)]
      · rw [if_neg e2, if_neg (by omega)])
  have e0 : zatr row d r u o p top = zfor (zatr_out d r u o p top) 0 row m := by
    unfold zatr
    rw [if_neg (by omega), hm.1]
  rw [e0, out.2 A B hB]
  have hq := hm.2 (A - r)
  by_cases e2 : r ≤ A ∧ A - r < m ∧ u ≤ B ∧ A - r + (B - u) ≤ 4 ∧ A + B ≤ top
  · rw [if_pos e2, if_pos (by omega)]
  · rw [if_neg e2, if_neg (by omega)]
/-- the POLYNOMIAL of a row -/
def krw {K : Type} [Lean.Grind.CommRing K] (φ : Int → K) (top : Nat) (row : Nat → Int) : Nat → Nat → K := fun i j => if i + j ≤ top then φ (row (25 * i + j)) else 0
theorem krw_t {K : Type} [Lean.Grind.CommRing K] {φ : Int → K} {top : Nat} {row : Nat → Int} {i j : Nat} (h : i + j ≤ top) : krw φ top row i j = φ (row (25 * i + j)) := if_pos h
theorem krw_atr {K : Type} [Lean.Grind.CommRing K] {p : Int} {φ : Int → K} (h : zKp K p φ) (hp : 0 < p) {row d : Nat → Int} {r u top : Nat} {o : Int} (hr : zcan p row) (ht : top ≤ 24) {A B : Nat} (hAB : A + B ≤ top) : krw φ top (zatr row d r u o p top) A B = krw φ top row A B + φ o * kc_mul (kc_t 1 r u) (zq φ d) A B := by
  rw [krw_t hAB, krw_t hAB, zatr_sp hp hr ht (by omega) (by omega), kc_t_mul]
  by_cases c : r ≤ A ∧ u ≤ B
  · rw [if_pos c, ka_om]
    by_cases c2 : A - r + (B - u) ≤ 4
    · rw [if_pos ⟨c.1, c.2, c2, hAB⟩, h.em, h.ad, h.ml, zq_t c2]
    · rw [if_neg (fun z => c2 z.2.2.1), zq_f c2, ka_mz, ka_az]
  · rw [if_neg (fun z => c ⟨z.1, z.2.1⟩), if_neg c, ka_mz, ka_az]
/-- the LEAD of a POLYNOMIAL, either way -/
def kLe {K : Type} [Lean.Grind.CommRing K] (F : Nat → Nat → K) (lc : Int) (x y : Nat) : Prop := F x y ≠ 0 ∧ ∀ a b, F a b ≠ 0 → (if lc = 0 then a + b < x + y else x + y < a + b) ∨ (a + b = x + y ∧ a ≤ x)
theorem zflead_sp {K : Type} [Lean.Grind.CommRing K] {p : Int} {φ : Int → K} (h : zKp K p φ) {d : Nat → Int} (hd : ∀ i j : Nat, i + j ≤ 4 → 0 ≤ d (5 * i + j) ∧ d (5 * i + j) < p) (lc : Int) (h0 : ∃ i j : Nat, i + j ≤ 4 ∧ d (5 * i + j) ≠ 0) : ∃ x y : Nat, zflead d lc = ((x : Int), (y : Int)) ∧ x + y ≤ 4 ∧ kLe (zq φ d) lc x y := by
  obtain ⟨κ, hκ⟩ : ∃ κ : Nat → Nat, κ = fun k => if lc = 0 then 4 - k else k := ⟨_, rfl⟩
  have kk : ∀ k : Nat, k ≤ 4 → (if lc = 0 then 4 - (k : Int) else (k : Int)) = (κ k : Int) ∧ κ k ≤ 4 := fun k hk => by
    rw [hκ]
    by_cases q : lc = 0
    · rw [if_pos q]
      show _ = ((if lc = 0 then 4 - k else k : Nat) : Int) ∧ (if lc = 0 then 4 - k else k) ≤ 4
      rw [if_pos q]
      omega
    · rw [if_neg q]
      show _ = ((if lc = 0 then 4 - k else k : Nat) : Int) ∧ (if lc = 0 then 4 - k else k) ≤ 4
      rw [if_neg q]
      omega
  have lp : ∀ n k : Nat, n + k = 5 → (∀ a b : Nat, a + b ≤ 4 → (∃ k', k' < k ∧ κ k' = a + b) → d (5 * a + b) = 0) → ∃ x y : Nat, zfleadF d lc n k = ((x : Int), (y : Int)) ∧ x + y ≤ 4 ∧ kLe (zq φ d) lc x y := fun n => by
    induction n with
    | zero =>
      intro k hk hz
      exfalso
      obtain ⟨i, j, hij, h1⟩ := h0
      refine h1 (hz i j hij ⟨if lc = 0 then 4 - (i + j) else i + j, ?_, ?_⟩)
      · split <;> omega
      · rw [hκ]
        show (if lc = 0 then 4 - (if lc = 0 then 4 - (i + j) else i + j) else (if lc = 0 then 4 - (i + j) else i + j)) = i + j
        by_cases q : lc = 0
        · rw [if_pos q, if_pos q]; omega
        · rw [if_neg q, if_neg q]
    | succ n ih =>
      intro k hk hz
      obtain ⟨k1, k2⟩ := kk k (by omega)
      have e : zfleadF d lc (n + 1) k = if 0 ≤ zlead d (κ k : Int) then (zlead d (κ k : Int), (κ k : Int) - zlead d (κ k : Int)) else zfleadF d lc n ((k : Int) + 1) := by
        simp only [zfleadF]
        rw [k1]
      rw [e]
      rcases zlead_sp d k2 with ⟨q1, q2⟩ | ⟨x, x1, x2, x3, x4⟩
      · rw [if_neg (by omega), show (k : Int) + 1 = ((k + 1 : Nat) : Int) by omega]
        refine ih (k + 1) (by omega) (fun a b hab ⟨k', e1, e2⟩ => ?_)
        by_cases q : k' = k
        · rw [q] at e2
          have := q2 a (by omega)
          rw [show κ k - a = b by omega] at this
          exact this
        · exact hz a b hab ⟨k', by omega, e2⟩
      · rw [if_pos (by omega), x2]
        refine ⟨x, κ k - x, Prod.ext rfl ?_, by omega, ?_, fun a b hab => ?_⟩
        · show (κ k : Int) - (x : Int) = ((κ k - x : Nat) : Int)
          omega
        · rw [zq_t (by omega)]
          exact fun z => x3 ((h.z0 (hd _ _ (by omega))).1 z)
        · have c4 : a + b ≤ 4 := Classical.byContradiction fun z => hab (zq_f z)
          rw [zq_t c4] at hab
          have dn : d (5 * a + b) ≠ 0 := fun z => hab (by rw [z, h.z])
          rw [show x + (κ k - x) = κ k by omega]
          by_cases q : a + b = κ k
          · refine Or.inr ⟨q, Classical.byContradiction fun z => dn ?_⟩
            have := x4 a (by omega) (by omega)
            rw [show κ k - a = b by omega] at this
            exact this
          · refine Or.inl ?_
            have nk : ∀ k', k' < k → κ k' ≠ a + b := fun k' h1 h2 => dn (hz a b c4 ⟨k', h1, h2⟩)
            by_cases q0 : lc = 0
            · rw [if_pos q0]
              have e3 : ∀ k, κ k = 4 - k := fun k => by rw [hκ]; exact if_pos q0
              rw [e3] at q ⊢
              have := nk (4 - (a + b))
              rw [e3] at this
              omega
            · rw [if_neg q0]
              have e3 : ∀ k, κ k = k := fun k => by rw [hκ]; exact if_neg q0
              rw [e3] at q ⊢
              have := nk (a + b)
              rw [e3] at this
              omega
  have := lp 5 0 rfl (fun a b _ ⟨k', e1, _⟩ => absurd e1 (Nat.not_lt_zero _))
  exact this
theorem kr_1 {K : Type} [Lean.Grind.CommRing K] (a b c d : K) : a + b + c * d = a + (b + c * d) := by grind
theorem kr_2 {K : Type} [Lean.Grind.CommRing K] (n v f : K) (h : f * v = 1) : n + -n * v * f = 0 := by grind
/-- how far a row has gone down -/
def kRd {K : Type} [Lean.Grind.CommRing K] (φ : Int → K) (p : Int) (F : Nat → Nat → K) (x y top D : Nat) (row0 : Nat → Int) (done : Nat → Nat → Prop) (row : Nat → Int) : Prop := zcan p row ∧ (∀ A B : Nat, A + B ≤ top → D < A + B → row (25 * A + B) = 0) ∧ (∀ A B : Nat, A + B ≤ top → x ≤ A → y ≤ B → done A B → row (25 * A + B) = 0) ∧ ∃ C : Nat → Nat → K, (∀ i j, D < i + j + (x + y) → C i j = 0) ∧ ∀ A B : Nat, A + B ≤ top → krw φ top row A B = krw φ top row0 A B + kc_mul C F A B
theorem kRd.imp {K : Type} [Lean.Grind.CommRing K] {φ : Int → K} {p : Int} {F : Nat → Nat → K} {x y top D : Nat} {row0 : Nat → Int} {d1 d2 : Nat → Nat → Prop} {row : Nat → Int} (h : kRd φ p F x y top D row0 d1 row) (e : ∀ A B : Nat, A + B ≤ top → x ≤ A → y ≤ B → d2 A B → d1 A B) : kRd φ p F x y top D row0 d2 row := ⟨h.1, h.2.1, fun A B a b c d => h.2.2.1 A B a b c (e A B a b c d), h.2.2.2⟩
/-- a row goes down by the divisor -/
theorem kred {K : Type} [Lean.Grind.CommRing K] {p : Int} {φ : Int → K} (h : zKp K p φ) (hp : 2 ≤ p) {d : Nat → Int} (hd : ∀ i j : Nat, i + j ≤ 4 → 0 ≤ d (5 * i + j) ∧ d (5 * i + j) < p) {lc : Int} {x y top D : Nat} (hxy : x + y ≤ 4) (ht : top ≤ 24) (hL : kLe (zq φ d) lc x y) (hD : D ≤ top) (hD2 : lc = 0 ∨ D = top) {row : Nat → Int} (hr : zcan p row) (hr2 : ∀ A B : Nat, A + B ≤ top → D < A + B → row (25 * A + B) = 0) : kRd φ p (zq φ d) x y top D row (fun _ _ => True) (zredr row d x y p top lc) := by
  obtain ⟨v, hv⟩ : ∃ v, v = zinv (zat d x y) p := ⟨_, rfl⟩
  have iv : zq φ d x y * φ v = 1 := by
    rw [hv, zatN hxy]
    have n0 := hL.1
    rw [zq_t hxy] at n0 ⊢
    exact zK_inv h hp n0
  obtain ⟨κ, hκ⟩ : ∃ κ : Nat → Nat, κ = fun k => if lc = 0 then top - k else k := ⟨_, rfl⟩
  have kk : ∀ k : Nat, k ≤ top → (if lc = 0 then (top : Int) - (k : Int) else (k : Int)) = (κ k : Int) ∧ κ k ≤ top := fun k hk => by
    rw [hκ]
    by_cases q : lc = 0
    · rw [if_pos q]
      show _ = ((if lc = 0 then top - k else k : Nat) : Int) ∧ (if lc = 0 then top - k else k) ≤ top
      rw [if_pos q]
      omega
    · rw [if_neg q]
      show _ = ((if lc = 0 then top - k else k : Nat) : Int) ∧ (if lc = 0 then top - k else k) ≤ top
      rw [if_neg q]
      omega
  -- one place
  have st : ∀ (e i : Nat) (done : Nat → Nat → Prop) (R : Nat → Int), e ≤ top → x ≤ i → i + y ≤ e → (∀ A B, A + B ≤ top → done A B → ¬ ((if lc = 0 then A + B < e else e < A + B) ∨ (A + B = e ∧ A ≤ i))) → kRd φ p (zq φ d) x y top D row done R → kRd φ p (zq φ d) x y top D row (fun A B => done A B ∨ (A = i ∧ B = e - i)) (zredr_in d v x y p top e i R) := fun e i done R he hi hie hdn ⟨r1, r2, r3, C, c1, c2⟩ => by
    unfold zredr_in
    rw [show ((i : Int) * 25 + (e : Int) - (i : Int)).toNat = 25 * i + (e - i) by omega, show (i : Int) - (x : Int) = ((i - x : Nat) : Int) by omega, show (e : Int) - (i : Int) - (y : Int) = ((e - i - y : Nat) : Int) by omega]
    by_cases q : R (25 * i + (e - i)) = 0
    · rw [if_neg (fun z => z q)]
      refine ⟨r1, r2, fun A B a b c hdo => ?_, C, c1, c2⟩
      rcases hdo with hdo | ⟨e1, e2⟩
      · exact r3 A B a b c hdo
      · rw [e1, e2]; exact q
    · rw [if_pos q]
      have eD : e ≤ D := Classical.byContradiction fun z => q (r2 i (e - i) (by omega) (by omega))
      obtain ⟨o, ho⟩ : ∃ o, o = -R (25 * i + (e - i)) * v % p := ⟨_, rfl⟩
      rw [← ho]
      have fo : φ o = -φ (R (25 * i + (e - i))) * φ v := by rw [ho, h.em, h.ml, h.ng]
      have cn : zcan p (zatr R d ((i - x : Nat) : Int) ((e - i - y : Nat) : Int) o p top) := zatr_can (by omega) (Int.le_refl _) r1
      have ev : ∀ A B : Nat, A + B ≤ top → krw φ top (zatr R d ((i - x : Nat) : Int) ((e - i - y : Nat) : Int) o p top) A B = krw φ top R A B + φ o * kc_mul (kc_t 1 (i - x) (e - i - y)) (zq φ d) A B := fun A B hAB => krw_atr h (by omega) r1 ht hAB
      have same : ∀ A B : Nat, A + B ≤ top → ¬ ((if lc = 0 then A + B < e else e < A + B) ∨ (A + B = e ∧ A ≤ i)) → zatr R d ((i - x : Nat) : Int) ((e - i - y : Nat) : Int) o p top (25 * A + B) = R (25 * A + B) := fun A B hAB hn => by
        refine h.ij (cn _) (r1 _) ?_
        have e1 := ev A B hAB
        rw [krw_t hAB, krw_t hAB, kc_t_mul] at e1
        rw [e1]
        by_cases c : i - x ≤ A ∧ e - i - y ≤ B
        · rw [if_pos c, ka_om]
          have z : zq φ d (A - (i - x)) (B - (e - i - y)) = 0 := Classical.byContradiction fun z => hn (by
            have q := hL.2 _ _ z
            by_cases l : lc = 0
            · rw [if_pos l] at q ⊢
              omega
            · rw [if_neg l] at q ⊢
              omega)
          rw [z, ka_mz, ka_az]
        · rw [if_neg c, ka_mz, ka_az]
      refine ⟨cn, fun A B hAB hDA => ?_, fun A B a b c hdo => ?_, fun a b => C a b + φ o * kc_t 1 (i - x) (e - i - y) a b, fun a b hab => ?_, fun A B hAB => ?_⟩
      · rw [same A B hAB (fun z => by
          rcases hD2 with l | l
          · rw [if_pos l] at z; omega
          · omega)]
        exact r2 A B hAB hDA
      · rcases hdo with hdo | ⟨e1, e2⟩
        · rw [same A B a (hdn A B a hdo)]
          exact r3 A B a b c hdo
        · rw [e1, e2]
          refine (h.z0 (cn _)).1 ?_
          have e3 := ev i (e - i) (by omega)
          rw [krw_t (by omega), krw_t (by omega), kc_t_mul, if_pos ⟨by omega, by omega⟩, ka_om, show i - (i - x) = x by omega, show e - i - (e - i - y) = y by omega, fo] at e3
          rw [e3]
          exact kr_2 _ _ _ iv
      · show C a b + φ o * (if a = i - x ∧ b = e - i - y then 1 else 0) = 0
        rw [c1 a b hab, if_neg (by omega), ka_mz, ka_az]
      · rw [ev A B hAB, c2 A B hAB, kc_mul_ac]
        exact kr_1 _ _ _ _
  -- one DEGREE
  have dg : ∀ (e : Nat) (done : Nat → Nat → Prop) (R : Nat → Int), e ≤ top → (∀ A B, A + B ≤ top → done A B → ¬ ((if lc = 0 then A + B < e else e < A + B) ∨ A + B = e)) → kRd φ p (zq φ d) x y top D row done R → ∀ n : Nat, n ≤ e + 1 - (x + y) → kRd φ p (zq φ d) x y top D row (fun A B => done A B ∨ (A + B = e ∧ e - y < A + n)) (zforD (zredr_in d v x y p top e) ((e : Int) - (y : Int)) R n) := fun e done R he hdn hR n => by
    induction n with
    | zero =>
      intro _
      exact hR.imp (fun A B a b c hdo => by
        rcases hdo with hdo | hdo
        · exact hdo
        · omega)
    | succ n ih =>
      intro hn
      have s := st e (e - y - n) (fun A B => done A B ∨ (A + B = e ∧ e - y < A + n)) _ he (by omega) (by omega) (fun A B a hdo => by
        rcases hdo with hdo | hdo
        · intro z
          refine hdn A B a hdo ?_
          rcases z with z | z
          · exact Or.inl z
          · exact Or.inr z.1
        · intro z
          rcases z with z | z
          · by_cases l : lc = 0
            · rw [if_pos l] at z; omega
            · rw [if_neg l] at z; omega
          · omega) (ih (by omega))
      have e1 : zforD (zredr_in d v x y p top e) ((e : Int) - (y : Int)) R (n + 1) = zredr_in d v x y p top e ((e - y - n : Nat) : Int) (zforD (zredr_in d v x y p top e) ((e : Int) - (y : Int)) R n) := by
        show zredr_in d v x y p top e ((e : Int) - (y : Int) - (n : Int)) _ = _
        rw [show (e : Int) - (y : Int) - (n : Int) = ((e - y - n : Nat) : Int) by omega]
      rw [e1]
      exact s.imp (fun A B a b c hdo => by
        rcases hdo with hdo | hdo
        · exact Or.inl (Or.inl hdo)
        · by_cases l : e - y < A + n
          · exact Or.inl (Or.inr ⟨hdo.1, l⟩)
          · exact Or.inr ⟨by omega, by omega⟩)
  have all := zfor_ix (step := zredr_out d v x y p top lc) (a := 0) (s := row) (fun (n : Nat) (R : Nat → Int) => kRd φ p (zq φ d) x y top D row (fun A B => ∃ k, k < n ∧ κ k = A + B) R) ⟨hr, hr2, fun A B _ _ _ ⟨k, hk, _⟩ => absurd hk (Nat.not_lt_zero _), fun _ _ => 0, fun _ _ _ => rfl, fun A B _ => by rw [kc_zmul, ka_az]⟩ (top + 1) (fun k R hk hR => by
    obtain ⟨k1, k2⟩ := kk k (by omega)
    have e1 : zredr_out d v x y p top lc (0 + (k : Int)) R = zforD (zredr_in d v x y p top (κ k)) ((κ k : Int) - (y : Int)) R (κ k + 1 - (x + y)) := by
      unfold zredr_out
      rw [show (0 + (k : Int)) = (k : Int) by omega, k1, show ((κ k : Int) - (y : Int) - ((x : Int) - 1)).toNat = κ k + 1 - (x + y) by omega]
    rw [e1]
    have s := dg (κ k) _ R k2 (fun A B a ⟨k', h1, h2⟩ => by
      have e2 : ∀ k, κ k = if lc = 0 then top - k else k := fun k => by rw [hκ]
      by_cases l : lc = 0
      · rw [if_pos l]
        rw [e2, if_pos l] at h2
        rw [e2, if_pos l]
        omega
      · rw [if_neg l]
        rw [e2, if_neg l] at h2
        rw [e2, if_neg l]
        omega) hR (κ k + 1 - (x + y)) (Nat.le_refl _)
    exact s.imp (fun A B a b c ⟨k', h1, h2⟩ => by
      by_cases l : k' = k
      · exact Or.inr ⟨by rw [← h2, l], by rw [l] at h2; omega⟩
      · exact Or.inl ⟨k', by omega, h2⟩))
  unfold zredr
  rw [← hv, show ((top : Int) + 1 - 0).toNat = top + 1 by omega]
  exact all.imp (fun A B a b c _ => ⟨if lc = 0 then top - (A + B) else A + B, by split <;> omega, by
    rw [hκ]
    show (if lc = 0 then top - (if lc = 0 then top - (A + B) else A + B) else (if lc = 0 then top - (A + B) else A + B)) = A + B
    by_cases l : lc = 0
    · rw [if_pos l, if_pos l]; omega
    · rw [if_neg l, if_neg l]⟩)
end ZIa
