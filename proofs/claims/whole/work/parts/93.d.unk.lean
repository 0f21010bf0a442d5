section ZFd
theorem zm_term_n (i j : Nat) : zm_termAt i j = (ncol i j : Int) := by
  unfold zm_termAt
  rw [Int.tdiv_eq_ediv_of_nonneg (Int.mul_nonneg (by omega) (by omega))]
  exact zcol_n i j
theorem zm_many_n (d : Nat) : zm_manyTerms d = (nT (d + 1) : Int) := by
  unfold zm_manyTerms nT
  rw [Int.tdiv_eq_ediv_of_nonneg (Int.mul_nonneg (by omega) (by omega)), show (((d : Int) + 1) * ((d : Int) + 2)) = (((d + 1) * (d + 1 + 1) : Nat) : Int) by rw [Int.natCast_mul, show ((d + 1 + 1 : Nat) : Int) = (d : Int) + 2 by omega, show ((d + 1 : Nat) : Int) = (d : Int) + 1 by omega], show (2 : Int) = ((2 : Nat) : Int) from rfl, ← Int.natCast_ediv]
/-- unknowns of a POLYNOMIAL times a grid -/
theorem zm_unk {K : Type} [Lean.Grind.CommRing K] {p : Int} {φ : Int → K} (h : zKp K p φ) (hp : 0 < p) {S : zS2} (hS : S 0 10 = p) {fr dg g : Nat} (by_ : Int) (hg4 : dg ≤ 4) (hfr : fr + nT (dg + 1) ≤ 30) (hc : zMc S p) : zMf S (zm_addsUnknowns S fr dg g by_) ∧ zMc (zm_addsUnknowns S fr dg g by_) p ∧ ∀ t c : Nat, t < 45 → c < 30 → φ (zMx (zm_addsUnknowns S fr dg g by_) t c) = φ (zMx S t c) + (if fr ≤ c ∧ c - fr < nT (dg + 1) then φ by_ * kvec (kc_mul (kc_t 1 (ndc (c - fr)).1 (ndc (c - fr)).2) (zq φ (zG S g))) t else 0) := by
  obtain ⟨Z, hZ⟩ : ∃ Z, Z = zm_addsUnknowns S fr dg g by_ := ⟨_, rfl⟩
  have eZ : Z = zfor (zm_addsUnknowns_L3 fr dg g by_) 0 S (dg + 1) := by
    rw [hZ]
    unfold zm_addsUnknowns
    rw [zlet_v, show ((dg : Int) + 1 - 0).toNat = dg + 1 by omega]
  rw [← hZ, eZ]
  have key : ∀ t c : Nat, t < 45 → c < 30 → (zMf S (zfor (zm_addsUnknowns_L3 fr dg g by_) 0 S (dg + 1)) ∧ zMc (zfor (zm_addsUnknowns_L3 fr dg g by_) 0 S (dg + 1)) p) ∧ φ (zMx (zfor (zm_addsUnknowns_L3 fr dg g by_) 0 S (dg + 1)) t c) = φ (zMx S t c) + ka_s (fun i => ka_s (fun j => ka_s (fun m => ka_s (fun n => if (m + i = (ndc t).1 ∧ n + j = (ndc t).2) ∧ c = fr + ncol i j then φ by_ * zq φ (zG S g) m n else 0) (4 - m + 1)) 5) (dg - i + 1)) (dg + 1) := by
    intro t c ht hc30
    refine zK_accI (fun X : zS2 => φ (zMx X t c)) (fun X => zMf S X ∧ zMc X p) ⟨fun _ _ _ => rfl, hc⟩ (dg + 1) (fun i X hi hX => ?_)
    rw [show 0 + (i : Int) = (i : Int) by omega]
    have e1 : zm_addsUnknowns_L3 fr dg g by_ i X = zfor (zm_addsUnknowns_L12 fr g by_ i) 0 X (dg - i + 1) := by
      unfold zm_addsUnknowns_L3
      dsimp only
      rw [zlet_v, show (((dg : Int) - (i : Int)) + 1 - 0).toNat = dg - i + 1 by omega]
    rw [e1]
    refine zK_accI (fun X : zS2 => φ (zMx X t c)) (fun X => zMf S X ∧ zMc X p) hX (dg - i + 1) (fun j Y hj hY => ?_)
    rw [show 0 + (j : Int) = (j : Int) by omega]
    have e2 : zm_addsUnknowns_L12 fr g by_ i j Y = zfor (zm_addsUnknowns_L24 fr g by_ i j) 0 Y 5 := by
      unfold zm_addsUnknowns_L12
      dsimp only
      rw [zlet_v]
      rfl
    rw [e2]
    refine zK_accI (fun X : zS2 => φ (zMx X t c)) (fun X => zMf S X ∧ zMc X p) hY 5 (fun m V hm hV => ?_)
    rw [show 0 + (m : Int) = (m : Int) by omega]
    have e3 : zm_addsUnknowns_L24 fr g by_ i j m V = zfor (zm_addsUnknowns_L33 fr g by_ i j m) 0 V (4 - m + 1) := by
      unfold zm_addsUnknowns_L24
      dsimp only
      rw [zlet_v, show ((4 - (m : Int)) + 1 - 0).toNat = 4 - m + 1 by omega]
    rw [e3]
    refine zK_accI (fun X : zS2 => φ (zMx X t c)) (fun X => zMf S X ∧ zMc X p) hV (4 - m + 1) (fun n W hn hW => ?_)
    rw [show 0 + (n : Int) = (n : Int) by omega]
    have w10 : W 0 10 = p := by rw [hW.1 0 10 (by decide), hS]
    obtain ⟨R, hR⟩ : ∃ R, R = ncol (i + m) (j + n) := ⟨_, rfl⟩
    obtain ⟨C, hC⟩ : ∃ C, C = fr + ncol i j := ⟨_, rfl⟩
    have R45 : R < 45 := by
      rw [hR]
      have := ncol_lt (i := i + m) (j := j + n) (d := 9) (by omega)
      rw [nT_9.1] at this
      exact this
    have C30 : C < 30 := by
      rw [hC]
      have := ncol_lt (i := i) (j := j) (d := dg + 1) (by omega)
      omega
    have cell : zm_cell W g m n = zG S g (5 * m + n) := by
      rw [zM_cell, hW.1 3 _ (by decide)]
      exact zG_at S g m n
    have e4 : zm_addsUnknowns_L33 fr g by_ i j m n W = za W 14 (30 * R + C) ((zMx W R C + by_ * zG S g (5 * m + n)) % p) := by
      unfold zm_addsUnknowns_L33
      dsimp only
      rw [zlet_v, zlet_v, zlet_v, zlet_v, zlet_v, show (i : Int) + (m : Int) = ((i + m : Nat) : Int) by omega, show (j : Int) + (n : Int) = ((j + n : Nat) : Int) by omega, zm_term_n, zm_term_n, ← hR, show (30 * (R : Int) + (fr : Int) + (ncol i j : Int)).toNat = 30 * R + C by omega, cell, zB_mod w10 hp]
      rfl
    rw [e4]
    refine ⟨⟨fun x q hx => by rw [za_ne (by omega)]; exact hW.1 x q hx, fun r k hr hk => ?_⟩, ?_⟩
    · by_cases q : r = R ∧ k = C
      · rw [q.1, q.2]
        have : zMx (za W 14 (30 * R + C) ((zMx W R C + by_ * zG S g (5 * m + n)) % p)) R C = (zMx W R C + by_ * zG S g (5 * m + n)) % p := za_same
        rw [this]
        exact ⟨Int.emod_nonneg _ (by omega), Int.emod_lt_of_pos _ hp⟩
      · have : zMx (za W 14 (30 * R + C) ((zMx W R C + by_ * zG S g (5 * m + n)) % p)) r k = zMx W r k := za_ne (by omega)
        rw [this]
        exact hW.2 r k hr hk
    · have iffR : (m + i = (ndc t).1 ∧ n + j = (ndc t).2) ↔ t = R := by
        constructor
        · intro q
          rw [hR, ← ncol_ndc t, ← q.1, ← q.2, Nat.add_comm i m, Nat.add_comm j n]
        · intro q
          rw [q, hR, ndc_ncol]
          exact ⟨Nat.add_comm m i, Nat.add_comm n j⟩
      by_cases q : t = R ∧ c = C
      · rw [if_pos ⟨iffR.2 q.1, by rw [← hC]; exact q.2⟩, q.1, q.2]
        have : zMx (za W 14 (30 * R + C) ((zMx W R C + by_ * zG S g (5 * m + n)) % p)) R C = (zMx W R C + by_ * zG S g (5 * m + n)) % p := za_same
        rw [this, h.em, h.ad, h.ml, zq_t (by omega)]
      · rw [if_neg (fun z => q ⟨iffR.1 z.1, by rw [hC]; exact z.2⟩)]
        have : zMx (za W 14 (30 * R + C) ((zMx W R C + by_ * zG S g (5 * m + n)) % p)) t c = zMx W t c := za_ne (by omega)
        rw [this, ka_az]
  refine ⟨(key 0 0 (by omega) (by omega)).1.1, (key 0 0 (by omega) (by omega)).1.2, fun t c ht hc30 => ?_⟩
  rw [(key t c ht hc30).2]
  -- the inner sums
  have B8 : (ndc t).2 < 9 := by
    have := ndc_dg (k := t) (d := 9) (by rw [nT_9.1]; exact ht)
    omega
  have inner : ∀ i j, ka_s (fun m => ka_s (fun n => if (m + i = (ndc t).1 ∧ n + j = (ndc t).2) ∧ c = fr + ncol i j then φ by_ * zq φ (zG S g) m n else 0) (4 - m + 1)) 5 = if c = fr + ncol i j then φ by_ * kvec (kc_mul (kc_t 1 i j) (zq φ (zG S g))) t else 0 := fun i j => by
    by_cases e : c = fr + ncol i j
    · rw [if_pos e]
      have e1 : ka_s (fun m => ka_s (fun n => if (m + i = (ndc t).1 ∧ n + j = (ndc t).2) ∧ c = fr + ncol i j then φ by_ * zq φ (zG S g) m n else 0) (4 - m + 1)) 5 = ka_s (fun m => ka_s (fun n => if m + i = (ndc t).1 ∧ n + j = (ndc t).2 then φ by_ * zq φ (zG S g) m n else 0) 9) 5 := ka_s_congr _ (fun m hm => by
        rw [ka_s_ext (m := 4 - m + 1) 9 (by omega) (fun n h1 h2 => by
          rw [zq_f (c := zG S g) (by omega), ka_mz]
          split <;> rfl)]
        refine ka_s_congr _ (fun n _ => ?_)
        by_cases y : m + i = (ndc t).1 ∧ n + j = (ndc t).2
        · rw [if_pos ⟨y, e⟩, if_pos y]
        · rw [if_neg (fun z => y z.1), if_neg y])
      rw [e1, ka_s_at (fun m n => φ by_ * zq φ (zG S g) m n) 5 (fun _ => 9) (fun m _ _ _ => by omega)]
      unfold kvec
      rw [kc_t_mul]
      by_cases y : i ≤ (ndc t).1 ∧ j ≤ (ndc t).2
      · rw [if_pos y]
        by_cases y2 : (ndc t).1 - i < 5
        · rw [if_pos ⟨y.1, y.2, y2⟩, ka_om]
        · rw [if_neg (fun z => y2 z.2.2), zq_f (c := zG S g) (by omega), ka_mz, ka_mz]
      · rw [if_neg y, if_neg (fun z => y ⟨z.1, z.2.1⟩), ka_mz]
    · rw [if_neg e]
      exact ka_s_zero _ (fun m _ => ka_s_zero _ (fun n _ => if_neg (fun z => e z.2)))
  have e2 : ka_s (fun i => ka_s (fun j => ka_s (fun m => ka_s (fun n => if (m + i = (ndc t).1 ∧ n + j = (ndc t).2) ∧ c = fr + ncol i j then φ by_ * zq φ (zG S g) m n else 0) (4 - m + 1)) 5) (dg - i + 1)) (dg + 1) = ka_s (fun i => ka_s (fun j => if c = fr + ncol i j then φ by_ * kvec (kc_mul (kc_t 1 i j) (zq φ (zG S g))) t else 0) (dg - i + 1)) (dg + 1) := ka_s_congr _ (fun i _ => ka_s_congr _ (fun j _ => inner i j))
  rw [e2]
  by_cases y : fr ≤ c ∧ c - fr < nT (dg + 1)
  · have dd := ndc_dg y.2
    have ec : c = fr + ncol (ndc (c - fr)).1 (ndc (c - fr)).2 := by rw [ncol_ndc]; omega
    have un : ∀ i j, c = fr + ncol i j → i = (ndc (c - fr)).1 ∧ j = (ndc (c - fr)).2 := fun i j e => ncol_inj (by omega)
    rw [if_pos y, ka_s_one (k := (ndc (c - fr)).1) (dg + 1) (by omega) (fun i _ hne => ka_s_zero _ (fun j _ => if_neg (fun e => hne (un i j e).1))), ka_s_one (k := (ndc (c - fr)).2) _ (by omega) (fun j _ hne => if_neg (fun e => hne (un _ j e).2)), if_pos ec]
  · rw [if_neg y]
    rw [ka_s_zero _ (fun i hi => ka_s_zero _ (fun j hj => if_neg (fun e => y (by
      have := ncol_lt (i := i) (j := j) (d := dg + 1) (by omega)
      omega))))]
theorem zm_noeq {S : zS2} : zMf S (zm_emptiesEquations S) ∧ ∀ r c : Nat, r < 45 → c < 30 → zMx (zm_emptiesEquations S) r c = 0 := by
  have f := zfor_fill (S := S) (step := zm_emptiesEquations_L2) (r := 14) (base := 0) (g := fun _ => 0) 1350 (fun k x hk hx => by
    unfold zm_emptiesEquations_L2
    dsimp only
    rw [zlet_v, show (0 + (k : Int)).toNat = 0 + k by omega])
  have e : zm_emptiesEquations S = zfor zm_emptiesEquations_L2 0 S 1350 := by
    unfold zm_emptiesEquations
    rw [zlet_v, show (1349 + 1 - 0 : Int).toNat = 1350 from rfl]
  rw [e]
  refine ⟨fun a i ha => by rw [f, if_neg (by omega)], fun r c hr hc => ?_⟩
  unfold zMx
  rw [f, if_pos (by omega)]
end ZFd
