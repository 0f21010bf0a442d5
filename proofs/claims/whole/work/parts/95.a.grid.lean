section ZHa
/-- a grid of the model is one of the class -/
def zRG (F : Nat → Int) (S : zS2) (k : Nat) : Prop := ∀ q : Nat, q < 289 → S k q = F q
theorem zm_grt_f {F : Nat → Int} {S : zS2} (h : zRG F S 16) : zm_greatestOf_f S = zgrt F := by
  have lp : ∀ k fu : Nat, k ≤ 17 → k < fu → zsum (zm_greatestOf_f_W3 S fu ((k : Int) - 1)) (fun r3 => r3) (fun _ => -1) = zgrtF F k := fun k => by
    induction k with
    | zero =>
      intro fu _ hf
      obtain ⟨n, rfl⟩ : ∃ n, fu = n + 1 := ⟨fu - 1, by omega⟩
      simp only [zm_greatestOf_f_W3]
      rw [if_pos (by omega)]
      rfl
    | succ k ih =>
      intro fu hk hf
      obtain ⟨n, rfl⟩ : ∃ n, fu = n + 1 := ⟨fu - 1, by omega⟩
      simp only [zm_greatestOf_f_W3]
      rw [if_neg (by omega), show (17 * (((k + 1 : Nat) : Int) - 1)).toNat = k * 17 by omega, h (k * 17) (by omega)]
      by_cases q : F (k * 17) = 0
      · rw [if_pos q, show ((k + 1 : Nat) : Int) - 1 + (-1) = (k : Int) - 1 by omega, ih n (by omega) (by omega)]
        simp only [zgrtF]
        rw [if_neg (fun z => z q)]
      · rw [if_neg q]
        simp only [zgrtF]
        rw [if_pos q]
        show ((k + 1 : Nat) : Int) - 1 = (k : Int)
        omega
  exact lp 17 19 (Nat.le_refl _) (by decide)
theorem zm_grt_g {F : Nat → Int} {S : zS2} (h : zRG F S 17) : zm_greatestOf_g S = zgrt F := by
  have lp : ∀ k fu : Nat, k ≤ 17 → k < fu → zsum (zm_greatestOf_g_W3 S fu ((k : Int) - 1)) (fun r3 => r3) (fun _ => -1) = zgrtF F k := fun k => by
    induction k with
    | zero =>
      intro fu _ hf
      obtain ⟨n, rfl⟩ : ∃ n, fu = n + 1 := ⟨fu - 1, by omega⟩
      simp only [zm_greatestOf_g_W3]
      rw [if_pos (by omega)]
      rfl
    | succ k ih =>
      intro fu hk hf
      obtain ⟨n, rfl⟩ : ∃ n, fu = n + 1 := ⟨fu - 1, by omega⟩
      simp only [zm_greatestOf_g_W3]
      rw [if_neg (by omega), show (17 * (((k + 1 : Nat) : Int) - 1)).toNat = k * 17 by omega, h (k * 17) (by omega)]
      by_cases q : F (k * 17) = 0
      · rw [if_pos q, show ((k + 1 : Nat) : Int) - 1 + (-1) = (k : Int) - 1 by omega, ih n (by omega) (by omega)]
        simp only [zgrtF]
        rw [if_neg (fun z => z q)]
      · rw [if_neg q]
        simp only [zgrtF]
        rw [if_pos q]
        show ((k + 1 : Nat) : Int) - 1 = (k : Int)
        omega
  exact lp 17 19 (Nat.le_refl _) (by decide)
theorem zm_lst_g {F : Nat → Int} {S : zS2} (h : zRG F S 17) : zm_leastOf_g S = zlst F := by
  have lp : ∀ n i fu : Nat, n + i = 17 → n < fu → zsum (zm_leastOf_g_W2 S fu (i : Int)) (fun r2 => r2) (fun _ => -1) = zlstF F n (i : Int) := fun n => by
    induction n with
    | zero =>
      intro i fu hi hf
      obtain ⟨m, rfl⟩ : ∃ m, fu = m + 1 := ⟨fu - 1, by omega⟩
      simp only [zm_leastOf_g_W2]
      rw [if_pos (by omega)]
      rfl
    | succ n ih =>
      intro i fu hi hf
      obtain ⟨m, rfl⟩ : ∃ m, fu = m + 1 := ⟨fu - 1, by omega⟩
      simp only [zm_leastOf_g_W2, zlstF]
      rw [if_neg (by omega), show (17 * (i : Int)).toNat = i * 17 by omega, h (i * 17) (by omega), show ((i : Int) * 17).toNat = i * 17 by omega]
      by_cases q : F (i * 17) = 0
      · rw [if_pos q, show (i : Int) + 1 = ((i + 1 : Nat) : Int) by omega, ih (i + 1) m (by omega) (by omega), if_neg (fun z => z q)]
      · rw [if_neg q, if_pos q]
        rfl
  exact lp 17 0 19 rfl (by decide)
theorem zgrt_sp (F : Nat → Int) : (zgrt F = -1 ∧ ∀ i : Nat, i < 17 → F (17 * i) = 0) ∨ ∃ k : Nat, k < 17 ∧ zgrt F = k ∧ F (17 * k) ≠ 0 ∧ ∀ i : Nat, k < i → i < 17 → F (17 * i) = 0 := by
  have lp : ∀ n : Nat, (zgrtF F n = -1 ∧ ∀ i : Nat, i < n → F (17 * i) = 0) ∨ ∃ k : Nat, k < n ∧ zgrtF F n = k ∧ F (17 * k) ≠ 0 ∧ ∀ i : Nat, k < i → i < n → F (17 * i) = 0 := fun n => by
    induction n with
    | zero => exact Or.inl ⟨rfl, fun i hi => absurd hi (Nat.not_lt_zero _)⟩
    | succ n ih =>
      simp only [zgrtF]
      by_cases q : F (n * 17) = 0
      · rw [if_neg (fun z => z q)]
        rcases ih with ⟨a, b⟩ | ⟨k, a, b, c, d⟩
        · refine Or.inl ⟨a, fun i hi => ?_⟩
          by_cases e : i = n
          · rw [e, Nat.mul_comm]; exact q
          · exact b i (by omega)
        · refine Or.inr ⟨k, by omega, b, c, fun i h1 h2 => ?_⟩
          by_cases e : i = n
          · rw [e, Nat.mul_comm]; exact q
          · exact d i h1 (by omega)
      · rw [if_pos q]
        exact Or.inr ⟨n, by omega, rfl, by rw [Nat.mul_comm]; exact q, fun i h1 h2 => by omega⟩
  exact lp 17
theorem zlst_sp (F : Nat → Int) : (zlst F = -1 ∧ ∀ i : Nat, i < 17 → F (17 * i) = 0) ∨ 0 ≤ zlst F := by
  have lp : ∀ n i : Nat, n + i = 17 → (zlstF F n i = -1 ∧ ∀ k : Nat, i ≤ k → k < 17 → F (17 * k) = 0) ∨ 0 ≤ zlstF F n i := fun n => by
    induction n with
    | zero => exact fun i hi => Or.inl ⟨rfl, fun k a b => by omega⟩
    | succ n ih =>
      intro i hi
      simp only [zlstF]
      rw [show ((i : Int) * 17).toNat = 17 * i by omega]
      by_cases q : F (17 * i) = 0
      · rw [if_neg (fun z => z q), show (i : Int) + 1 = ((i + 1 : Nat) : Int) by omega]
        rcases ih (i + 1) (by omega) with ⟨a, b⟩ | a
        · refine Or.inl ⟨a, fun k h1 h2 => ?_⟩
          by_cases e : k = i
          · rw [e]; exact q
          · exact b k (by omega) h2
        · exact Or.inr a
      · rw [if_pos q]
        exact Or.inr (by omega)
  rcases lp 17 0 rfl with ⟨a, b⟩ | a
  · exact Or.inl ⟨a, fun i hi => b i (Nat.zero_le _) hi⟩
  · exact Or.inr a
/-- SPLIT, place by place -/
theorem zspl_sp (F : Nat → Int) {i j : Nat} (hi : i < 17) (hj : j < 17) : zspl F (17 * i + j) = if j < 16 then F (17 * i + j + 1) else 0 := by
  have inn : ∀ (i : Nat) (X : Nat → Int), i < 17 → ∀ a b : Nat, b < 17 → zspl_out i X (17 * a + b) = if a = i then (if b < 16 then X (17 * a + b + 1) else 0) else X (17 * a + b) := fun i X hi a b hb => by
    have f := zfor_ix (step := zspl_in i) (a := 0) (s := X) (fun (n : Nat) (Y : Nat → Int) => ∀ a b : Nat, b < 17 → Y (17 * a + b) = if a = i ∧ b < n then X (17 * a + b + 1) else X (17 * a + b)) (fun a b hb => by rw [if_neg (by omega)]) 16 (fun n Y hn hY a b hb => by
      have e0 : Y (17 * i + (n + 1)) = X (17 * i + (n + 1)) := by rw [hY i (n + 1) (by omega), if_neg (by omega)]
      unfold zspl_in
      rw [show ((i : Int) * 17 + (0 + (n : Int))).toNat = 17 * i + n by omega, show ((i : Int) * 17 + (0 + (n : Int)) + 1).toNat = 17 * i + (n + 1) by omega, zup_ap, e0, hY a b hb]
      by_cases e : a = i ∧ b = n
      · rw [if_pos (show 17 * a + b = 17 * i + n by omega), if_pos (show a = i ∧ b < n + 1 by omega), e.1, e.2]
        rfl
      · rw [if_neg (show ¬ 17 * a + b = 17 * i + n by omega)]
        by_cases e2 : a = i ∧ b < n
        · rw [if_pos e2, if_pos (by omega)]
        · rw [if_neg e2, if_neg (by omega)])
    unfold zspl_out
    rw [zup_ap, show ((i : Int) * 17 + 16).toNat = 17 * i + 16 by omega, show (16 - 0 : Int).toNat = 16 by decide]
    by_cases e : a = i
    · rw [if_pos e]
      by_cases e2 : b < 16
      · rw [if_neg (by omega), f a b hb, if_pos ⟨e, e2⟩, if_pos e2]
      · rw [if_pos (by omega), if_neg e2]
    · rw [if_neg (by omega), f a b hb, if_neg (by omega), if_neg e]
  have out := zfor_ix (step := zspl_out) (a := 0) (s := F) (fun (n : Nat) (Y : Nat → Int) => ∀ a b : Nat, b < 17 → Y (17 * a + b) = if a < n then (if b < 16 then F (17 * a + b + 1) else 0) else F (17 * a + b)) (fun a b hb => by rw [if_neg (by omega)]) 17 (fun n Y hn hY a b hb => by
    rw [show (0 + (n : Int)) = (n : Int) by omega, inn n Y hn a b hb]
    by_cases e : a = n
    · rw [if_pos e, if_pos (show a < n + 1 by omega)]
      have e0 : Y (17 * a + b + 1) = F (17 * a + b + 1) ∨ ¬ b < 16 := by
        by_cases e2 : b < 16
        · refine Or.inl ?_
          rw [show 17 * a + b + 1 = 17 * a + (b + 1) by omega, hY a (b + 1) (by omega), if_neg (show ¬ a < n by omega)]
        · exact Or.inr e2
      rcases e0 with e0 | e0
      · rw [e0]
      · rw [if_neg e0, if_neg e0]
    · rw [if_neg e, hY a b hb]
      by_cases e3 : a < n
      · rw [if_pos e3, if_pos (show a < n + 1 by omega)]
      · rw [if_neg e3, if_neg (by omega)])
  have := out i j hj
  rw [if_pos hi] at this
  exact this
/-- SPLIT in the model -/
theorem zm_spl {F : Nat → Int} {S : zS2} (h : zRG F S 16) : zRG (zspl F) (zm_splits S) 16 ∧ ∀ a i : Nat, a ≠ 16 → (zm_splits S) a i = S a i := by
  unfold zm_splits
  rw [zlet_v]
  refine zfor_rel (fun (c : Nat → Int) (Y : zS2) => zRG c Y 16 ∧ ∀ a i : Nat, a ≠ 16 → Y a i = S a i) (s := zspl_out) (t := zm_splits_L2) ⟨h, fun _ _ _ => rfl⟩ 17 (fun i c Y h1 h2 hI => ?_)
  obtain ⟨i, rfl⟩ : ∃ k : Nat, i = k := ⟨i.toNat, by omega⟩
  have hi : i < 17 := by omega
  unfold zspl_out zm_splits_L2
  dsimp only
  rw [zlet_v, zlet_v]
  have f := zfor_rel (fun (c : Nat → Int) (Y : zS2) => zRG c Y 16 ∧ ∀ a i : Nat, a ≠ 16 → Y a i = S a i) (s := zspl_in i) (t := zm_splits_L10 i) (a := 0) hI 16 (fun j c Y h1 h2 hI => by
    obtain ⟨j, rfl⟩ : ∃ k : Nat, j = k := ⟨j.toNat, by omega⟩
    unfold zspl_in zm_splits_L10
    dsimp only
    rw [zlet_v, show ((i : Int) * 17 + (j : Int)).toNat = 17 * i + j by omega, show ((i : Int) * 17 + (j : Int) + 1).toNat = 17 * i + j + 1 by omega, show (17 * (i : Int) + (j : Int)).toNat = 17 * i + j by omega, show (17 * (i : Int) + (j : Int) + 1).toNat = 17 * i + j + 1 by omega]
    refine ⟨fun q hq => ?_, fun a k ha => by rw [za_ne (by omega)]; exact hI.2 a k ha⟩
    by_cases e : q = 17 * i + j
    · rw [e, za_same, zup_self]
      exact hI.1 _ (by omega)
    · rw [za_ne (by omega), zup_ne _ _ e]
      exact hI.1 q hq)
  rw [show (15 + 1 - 0 : Int).toNat = 16 by decide, show (16 - 0 : Int).toNat = 16 by decide, show ((i : Int) * 17 + 16).toNat = 17 * i + 16 by omega, show (17 * (i : Int) + 16).toNat = 17 * i + 16 by omega]
  refine ⟨fun q hq => ?_, fun a k ha => by rw [za_ne (by omega)]; exact f.2 a k ha⟩
  by_cases e : q = 17 * i + 16
  · rw [e, za_same, zup_self]
  · rw [za_ne (by omega), zup_ne _ _ e]
    exact f.1 q hq
/-- SWAP in the model -/
theorem zm_swp (S : zS2) : (∀ q : Nat, q < 289 → (zm_swaps S) 16 q = S 17 q ∧ (zm_swaps S) 17 q = S 16 q) ∧ ∀ a i : Nat, a ≠ 16 → a ≠ 17 → (zm_swaps S) a i = S a i := by
  unfold zm_swaps
  rw [zlet_v, show (288 + 1 - 0 : Int).toNat = 289 by decide]
  have f := zfor_ix (step := zm_swaps_L2) (a := 0) (s := S) (fun (n : Nat) (Y : zS2) => (∀ q : Nat, (Y 16 q = if q < n then S 17 q else S 16 q) ∧ Y 17 q = if q < n then S 16 q else S 17 q) ∧ ∀ a i : Nat, a ≠ 16 → a ≠ 17 → Y a i = S a i) ⟨fun q => ⟨by rw [if_neg (by omega)], by rw [if_neg (by omega)]⟩, fun _ _ _ _ => rfl⟩ 289 (fun n Y hn hY => by
    unfold zm_swaps_L2
    dsimp only
    rw [zlet_v, zlet_v, show (0 + (n : Int)).toNat = n by omega]
    refine ⟨fun q => ⟨?_, ?_⟩, fun a i h1 h2 => by rw [za_ne (by omega), za_ne (by omega)]; exact hY.2 a i h1 h2⟩
    · rw [za_ne (by omega)]
      by_cases e : q = n
      · rw [e, za_same, if_pos (by omega), (hY.1 n).2, if_neg (by omega)]
      · rw [za_ne (by omega), (hY.1 q).1]
        by_cases e2 : q < n
        · rw [if_pos e2, if_pos (by omega)]
        · rw [if_neg e2, if_neg (by omega)]
    · by_cases e : q = n
      · rw [e, za_same, if_pos (by omega), (hY.1 n).1, if_neg (by omega)]
      · rw [za_ne (by omega), za_ne (by omega), (hY.1 q).2]
        by_cases e2 : q < n
        · rw [if_pos e2, if_pos (by omega)]
        · rw [if_neg e2, if_neg (by omega)])
  refine ⟨fun q hq => ⟨?_, ?_⟩, f.2⟩
  · rw [(f.1 q).1, if_pos hq]
  · rw [(f.1 q).2, if_pos hq]
theorem zfor_sh {σ : Type} {s : Int → σ → σ} {a : Int} {x : σ} : ∀ k : Nat, zfor s a x k = zfor (fun i => s (i + a)) 0 x k
  | 0 => rfl
  | k + 1 => by
    show s (a + k) (zfor s a x k) = s (0 + (k : Int) + a) (zfor (fun i => s (i + a)) 0 x k)
    rw [zfor_sh k, show 0 + (k : Int) + a = a + k by omega]
/-- CUT, place by place -/
theorem zcut_sp {F G : Nat → Int} {p : Int} (hp : 0 < p) (hG : zcan p G) {x y : Nat} (hx : zgrt F = x) (hy : zgrt G = y) (hxy : x ≤ y) (y16 : y < 17) {i j : Nat} (hi : i < 17) (hj : j < 17) : zcut F G p (17 * i + j) = if y - x ≤ i ∧ i + j ≤ 16 then (G (17 * i + j) + zcutm F G p * F (17 * (i - (y - x)) + j)) % p else G (17 * i + j) := by
  obtain ⟨r, hr⟩ : ∃ r, r = y - x := ⟨_, rfl⟩
  obtain ⟨mn, hm⟩ : ∃ m, m = zcutm F G p := ⟨_, rfl⟩
  have e : zcut F G p = zfor (zcut_out F p (r : Int) mn) (r : Int) G (17 - r) := by
    unfold zcut
    rw [if_neg (by omega), hx, hy, ← hm, show (y : Int) - (x : Int) = (r : Int) by omega, show (17 - (r : Int)).toNat = 17 - r by omega]
  rw [e, ← hm, ← hr, zfor_sh]
  have inn : ∀ (n : Nat) (X : Nat → Int), n + r < 17 → zcan p X → ∀ a b : Nat, b < 17 → zcut_out F p r mn ((n : Int) + (r : Int)) X (17 * a + b) = if a = n + r ∧ a + b ≤ 16 then (X (17 * a + b) + mn * F (17 * n + b)) % p else X (17 * a + b) := fun n X hn hX a b hb => by
    unfold zcut_out
    rw [show (16 - ((n : Int) + (r : Int)) + 1 - 0).toNat = 17 - (n + r) by omega]
    have f := zfor_ix (step := zcut_in F p r mn ((n : Int) + (r : Int))) (a := 0) (s := X) (fun (m : Nat) (Y : Nat → Int) => ∀ a b : Nat, b < 17 → Y (17 * a + b) = if a = n + r ∧ b < m then (X (17 * a + b) + mn * F (17 * n + b)) % p else X (17 * a + b)) (fun a b hb => by rw [if_neg (by omega)]) (17 - (n + r)) (fun m Y hmm hY a b hb => by
      have e0 : Y (17 * (n + r) + m) = X (17 * (n + r) + m) := by rw [hY _ _ (by omega), if_neg (by omega)]
      unfold zcut_in
      rw [show (((n : Int) + (r : Int) - (r : Int)) * 17 + (0 + (m : Int))).toNat = 17 * n + m by omega, show (((n : Int) + (r : Int)) * 17 + (0 + (m : Int))).toNat = 17 * (n + r) + m by omega]
      by_cases q : F (17 * n + m) = 0
      · rw [if_neg (fun z => z q), hY a b hb]
        by_cases e2 : a = n + r ∧ b = m
        · rw [if_neg (by omega), if_pos (by omega), e2.1, e2.2, q, Int.mul_zero, Int.add_zero, Int.emod_eq_of_lt (hX _).1 (hX _).2]
        · by_cases e3 : a = n + r ∧ b < m
          · rw [if_pos e3, if_pos (by omega)]
          · rw [if_neg e3, if_neg (by omega)]
      · rw [if_pos q, zup_ap, e0]
        by_cases e2 : a = n + r ∧ b = m
        · rw [if_pos (by omega), if_pos (by omega), e2.1, e2.2]
        · rw [if_neg (by omega), hY a b hb]
          by_cases e3 : a = n + r ∧ b < m
          · rw [if_pos e3, if_pos (by omega)]
          · rw [if_neg e3, if_neg (by omega)])
    rw [f a b hb]
    by_cases e3 : a = n + r ∧ b < 17 - (n + r)
    · rw [if_pos e3, if_pos (by omega)]
    · rw [if_neg e3, if_neg (by omega)]
  have canup : ∀ (i : Int) (X : Nat → Int), zcan p X → zcan p (zcut_out F p r mn i X) := fun i X hX => zfor_inv (zcan p) hX (fun j Y hY => by
    show zcan p (zcut_in F p r mn i j Y)
    unfold zcut_in
    split
    · exact zcan_up hY _ (zmr _ hp)
    · exact hY) _
  have out := zfor_ix (step := fun i => zcut_out F p r mn (i + (r : Int))) (a := 0) (s := G) (fun (n : Nat) (Y : Nat → Int) => zcan p Y ∧ ∀ a b : Nat, b < 17 → Y (17 * a + b) = if r ≤ a ∧ a < n + r ∧ a + b ≤ 16 then (G (17 * a + b) + mn * F (17 * (a - r) + b)) % p else G (17 * a + b)) ⟨hG, fun a b hb => by rw [if_neg (by omega)]⟩ (17 - r) (fun n Y hn hY => by
    rw [show (0 + (n : Int)) = (n : Int) by omega]
    refine ⟨canup _ _ hY.1, fun a b hb => ?_⟩
    rw [inn n Y (by omega) hY.1 a b hb, hY.2 a b hb]
    by_cases e1 : a = n + r ∧ a + b ≤ 16
    · rw [if_pos e1, if_neg (by omega), if_pos (by omega), show a - r = n by omega]
    · rw [if_neg e1]
      by_cases e3 : r ≤ a ∧ a < n + r ∧ a + b ≤ 16
      · rw [if_pos e3, if_pos (by omega)]
      · rw [if_neg e3, if_neg (by omega)])
  rw [out.2 i j hj]
  by_cases e3 : r ≤ i ∧ i + j ≤ 16
  · rw [if_pos e3, if_pos (by omega)]
  · rw [if_neg e3, if_neg (by omega)]
/-- CUT in the model -/
theorem zm_cut {K : Type} [Lean.Grind.CommRing K] {p : Int} {φ : Int → K} (h : zKp K p φ) (hpr : zPr p) {F G : Nat → Int} {S : zS2} (hS : S 0 10 = p) (hF : zcan p F) (hG : zcan p G) (h16 : zRG F S 16) (h17 : zRG G S 17) {x y : Nat} (hx : zgrt F = x) (hy : zgrt G = y) (hxy : x ≤ y) (y16 : y < 17) (hFx : F (17 * x) ≠ 0) : zRG (zcut F G p) (zm_cuts S x y) 17 ∧ ∀ a i : Nat, a ≠ 17 → (zm_cuts S x y) a i = S a i := by
  have hp := zPr_2 hpr
  obtain ⟨r, hr⟩ : ∃ r, r = y - x := ⟨_, rfl⟩
  obtain ⟨z, hz⟩ : ∃ z, z = (G (17 * y) * zm_inverse S (F (17 * x))) % p := ⟨_, rfl⟩
  have em : zm_cuts S x y = zfor (zm_cuts_L38 x y z) 0 S (17 - r) := by
    unfold zm_cuts
    rw [zlet_v, zlet_v, zlet_v, show (17 * (x : Int)).toNat = 17 * x by omega, show (17 * (y : Int)).toNat = 17 * y by omega, h16 _ (by omega), h17 _ (by omega), zB_mod hS (by omega), ← hz, show ((16 - ((y : Int) - (x : Int))) + 1 - 0).toNat = 17 - r by omega]
  have zc : zcutm F G p = p - z := by
    unfold zcutm
    rw [hx, hy, show ((y : Int) * 17).toNat = 17 * y by omega, show ((x : Int) * 17).toNat = 17 * x by omega, hz]
    refine congrArg (fun w => p - w) ((h.q _ _).1 ?_)
    have n0 : φ (F (17 * x)) ≠ 0 := fun e => hFx ((h.z0 (hF _)).1 e)
    have i1 := zK_inv h hp.1 n0
    have i2 := zK_minv h hpr hS (hF (17 * x)) hFx
    rw [h.ml, h.ml]
    generalize φ (zinv (F (17 * x)) p) = a at i1 ⊢
    generalize φ (zm_inverse S (F (17 * x))) = b at i2 ⊢
    generalize φ (F (17 * x)) = c at i1 i2
    generalize φ (G (17 * y)) = d
    grind
  have zr : 0 ≤ z ∧ z < p := by
    rw [hz]
    exact zmr _ (by omega)
  have f := zfor_ix (step := zm_cuts_L38 x y z) (a := 0) (s := S) (fun (n : Nat) (Y : zS2) => (∀ a i : Nat, a ≠ 17 → Y a i = S a i) ∧ ∀ a b : Nat, a < 17 → b < 17 → Y 17 (17 * a + b) = if r ≤ a ∧ a < n + r ∧ a + b ≤ 16 then (G (17 * a + b) - z * F (17 * (a - r) + b)) % p else G (17 * a + b)) ⟨fun _ _ _ => rfl, fun a b ha hb => by rw [if_neg (by omega)]; exact h17 _ (by omega)⟩ (17 - r) (fun n Y hn hY => by
    unfold zm_cuts_L38
    dsimp only
    rw [zlet_v, show ((16 - (0 + (n : Int) + ((y : Int) - (x : Int)))) + 1 - 0).toNat = 17 - (n + r) by omega]
    have g := zfor_ix (step := zm_cuts_L51 x y z (0 + (n : Int))) (a := 0) (s := Y) (fun (m : Nat) (U : zS2) => (∀ a i : Nat, a ≠ 17 → U a i = S a i) ∧ ∀ a b : Nat, a < 17 → b < 17 → U 17 (17 * a + b) = if a = n + r ∧ b < m then (G (17 * a + b) - z * F (17 * n + b)) % p else Y 17 (17 * a + b)) ⟨hY.1, fun a b ha hb => by rw [if_neg (by omega)]⟩ (17 - (n + r)) (fun m U hm hU => by
      have e0 := hU.2 (n + r) m (by omega) (by omega)
      rw [if_neg (by omega), hY.2 (n + r) m (by omega) (by omega), if_neg (by omega)] at e0
      have es : zm_cuts_L51 x y z (0 + (n : Int)) (0 + (m : Int)) U = za U 17 (17 * (n + r) + m) ((G (17 * (n + r) + m) - z * F (17 * n + m)) % p) := by
        unfold zm_cuts_L51
        dsimp only
        rw [zlet_v, zlet_v, show (17 * (0 + (n : Int) + ((y : Int) - (x : Int))) + (0 + (m : Int))).toNat = 17 * (n + r) + m by omega, show (17 * (0 + (n : Int)) + (0 + (m : Int))).toNat = 17 * n + m by omega, e0, hU.1 16 _ (by decide), h16 _ (by omega), zB_mod (show U 0 10 = p by rw [hU.1 0 10 (by decide), hS]) (by omega)]
      rw [es]
      refine ⟨fun a i ha => by rw [za_ne (by omega)]; exact hU.1 a i ha, fun a b ha hb => ?_⟩
      by_cases e2 : a = n + r ∧ b = m
      · rw [e2.1, e2.2, za_same, if_pos (by omega)]
      · rw [za_ne (by omega), hU.2 a b ha hb]
        by_cases e3 : a = n + r ∧ b < m
        · rw [if_pos e3, if_pos (by omega)]
        · rw [if_neg e3, if_neg (by omega)])
    refine ⟨g.1, fun a b ha hb => ?_⟩
    rw [g.2 a b ha hb, hY.2 a b ha hb]
    by_cases e1 : a = n + r ∧ b < 17 - (n + r)
    · rw [if_pos e1, if_pos (by omega), show a - r = n by omega]
    · rw [if_neg e1]
      by_cases e3 : r ≤ a ∧ a < n + r ∧ a + b ≤ 16
      · rw [if_pos e3, if_pos (by omega)]
      · rw [if_neg e3, if_neg (by omega)])
  rw [em]
  refine ⟨fun q hq => ?_, f.1⟩
  obtain ⟨a, b, hab, hb⟩ : ∃ a b : Nat, q = 17 * a + b ∧ b < 17 := ⟨q / 17, q % 17, by omega, by omega⟩
  have ha : a < 17 := by omega
  rw [hab, f.2 a b ha hb, zcut_sp (by omega) hG hx hy hxy y16 ha hb, ← hr, zc]
  by_cases e3 : r ≤ a ∧ a + b ≤ 16
  · rw [if_pos (by omega), if_pos e3]
    have e4 : G (17 * a + b) + (p - z) * F (17 * (a - r) + b) = G (17 * a + b) - z * F (17 * (a - r) + b) + p * F (17 * (a - r) + b) := by
      rw [Int.sub_mul]; omega
    rw [e4, Int.add_mul_emod_self_left]
  · rw [if_neg (by omega), if_neg e3]
/-- a RULE is counted -/
theorem zm_goes (S : zS2) (k : Nat) (hk : k < 4) {s : Nat} (hs : S 0 33 = s) (h4 : s < 4000) : (∀ a i : Nat, a ≠ 18 → a ≠ 19 → ¬ (a = 0 ∧ i = 33) → (zm_goesBy S k) a i = S a i) ∧ (zm_goesBy S k) 0 33 = ((s + 1 : Nat) : Int) ∧ (∀ i : Nat, (zm_goesBy S k) 18 i = if i = k then S 18 i + 1 else S 18 i) ∧ ∀ i : Nat, (zm_goesBy S k) 19 i = if i = s then (k : Int) else S 19 i := by
  have e : zm_goesBy S k = za (za (za S 18 k (S 18 k + 1)) 19 s k) 0 33 ((s + 1 : Nat) : Int) := by
    unfold zm_goesBy
    rw [zlet_v, zlet_v, zlet_v, Int.toNat_natCast]
    have j : zm_goesBy_J17 k (za S 18 k (S 18 k + 1)) = za (za S 18 k (S 18 k + 1)) 19 s k := by
      unfold zm_goesBy_J17
      rw [za_ne (by omega), hs, if_neg (by omega), zlet_v, Int.toNat_natCast]
    rw [j, za_ne (by omega), za_ne (by omega), hs]
    rfl
  rw [e]
  refine ⟨fun a i h1 h2 h3 => by rw [za_ne h3, za_ne (by omega), za_ne (by omega)], by rw [za_same], fun i => ?_, fun i => ?_⟩
  · rw [za_ne (by omega), za_ne (by omega), za_ap]
    by_cases q : i = k
    · rw [if_pos ⟨rfl, q⟩, if_pos q, q]
    · rw [if_neg (by omega), if_neg q]
  · rw [za_ne (by omega), za_ap]
    by_cases q : i = s
    · rw [if_pos ⟨rfl, q⟩, if_pos q]
    · rw [if_neg (by omega), if_neg q, za_ne (by omega)]
end ZHa
