section ZHd
/-- a grid as a POLYNOMIAL below DEGREE 17 -/
def kgr {K : Type} [Lean.Grind.CommRing K] (φ : Int → K) (F : Nat → Int) : Nat → Nat → K := fun i j => if i + j ≤ 16 then φ (F (17 * i + j)) else 0
theorem kgr_t {K : Type} [Lean.Grind.CommRing K] {φ : Int → K} {F : Nat → Int} {i j : Nat} (h : i + j ≤ 16) : kgr φ F i j = φ (F (17 * i + j)) := if_pos h
/-- how long it may still go between SPLITS -/
def zpsi (a b : Int) : Int := 2 * (a + 1 + (b + 1)) + (if 0 ≤ a ∧ (b = -1 ∨ b < a) then 1 else 0)
theorem zpsi_le {a b : Int} (ha : -1 ≤ a ∧ a ≤ 16) (hb : -1 ≤ b ∧ b ≤ 16) : 0 ≤ zpsi a b ∧ zpsi a b ≤ 69 := by
  unfold zpsi
  split <;> omega
theorem kz_q1 {K : Type} [Lean.Grind.CommRing K] (g m f : K) : g = (g + m * f) + (-m) * f := by grind
theorem kz_q2 {K : Type} [Lean.Grind.CommRing K] (a b c m d : K) (h : b = d) : a + (c + (-m) * b) = (a + (-m) * d) + c := by grind
theorem kz_q3 {K : Type} [Lean.Grind.CommRing K] (g iv f : K) (h : f * iv = 1) : g + (0 - g * iv) * f = 0 := by grind
/-- the RULES end -/
theorem zrE_of {K : Type} [Lean.Grind.CommRing K] {p : Int} {φ : Int → K} (h : zKp K p φ) (hpr : zPr p) : ∀ (N n : Nat) (F G : Nat → Int), zcan p F → zcan p G → 137 ≤ n → kz_rk (kz_V (kgr φ F) (kgr φ G)) n → (153 - (n : Int)) * 70 + zpsi (zgrt F) (zgrt G) < N → zrE p N F G
  | 0, n, F, G, cF, cG, hn, hr, hN => by
    have := hr.le h.F
    have := (zpsi_le (zgrt_rng F) (zgrt_rng G)).1
    omega
  | N + 1, n, F, G, cF, cG, hn, hr, hN => by
    have hp := zPr_2 hpr
    have rF := zgrt_rng F
    have rG := zgrt_rng G
    have w := zwhich_rng F G
    have w4 : zwhich F G = 0 ∨ zwhich F G = 1 ∨ zwhich F G = 2 ∨ zwhich F G = 3 := by omega
    rcases w4 with w | w | w | w
    · exact Or.inl w
    · obtain ⟨q1, q2, q3⟩ := zwh_1 w
      have F0 : ∀ i : Nat, i < 17 → F (17 * i) = 0 := by
        rcases zgrt_sp F with ⟨_, a⟩ | ⟨k, k1, k2, _⟩
        · exact a
        · omega
      have F0' : ∀ i, i < 17 → kgr φ F i 0 = 0 := fun i hi => by rw [kgr_t (by omega), show 17 * i + 0 = 17 * i by omega, F0 i hi, h.z]
      refine Or.inr (Or.inl ⟨w, ?_, ?_⟩)
      · rcases zlst_sp G with ⟨_, a⟩ | a
        · exact (kz_pure h.F hn F0' (fun i hi => by rw [kgr_t (by omega), show 17 * i + 0 = 17 * i by omega, a i hi, h.z]) hr).elim
        · exact a
      · have r2 := kz_split h.F (F1 := kgr φ (zspl F)) (by rw [kgr_t (by omega), show 17 * 0 + 0 = 0 by rfl, q2, h.z]) (fun i j hij => by
          rw [kc_t_mul]
          by_cases q : 1 ≤ j
          · rw [if_pos ⟨Nat.zero_le _, q⟩, ka_om, kgr_t (by omega), kgr_t (by omega), zspl_sp F (by omega) (by omega), if_pos (by omega)]
            exact congrArg (fun k => φ (F k)) (by omega)
          · rw [if_neg (fun z => q z.2), show j = 0 by omega]
            exact F0' i (by omega)) hn hr
        have l2 := r2.le h.F
        have p1 := (zpsi_le rF rG).1
        have p2 := (zpsi_le (zgrt_rng (zspl F)) rG).2
        exact zrE_of h hpr N (n + 1) _ _ (zspl_can (by omega) cF) cG (by omega) r2 (by omega)
    · obtain ⟨q1, q2, q3, q4⟩ := zwh_2 w
      refine Or.inr (Or.inr (Or.inl ⟨w, zrE_of h hpr N n _ _ cG cF hn (hr.mono (fun v ⟨A, B, e⟩ => ⟨B, A, e.trans (congrArg (kp_w 153) (funext fun i => funext fun j => Lean.Grind.AddCommMonoid.add_comm _ _))⟩)) ?_⟩))
      have e1 : zpsi (zgrt G) (zgrt F) < zpsi (zgrt F) (zgrt G) := by
        unfold zpsi
        rw [if_neg (by omega), if_pos ⟨q3, q4⟩]
        omega
      omega
    · obtain ⟨q1, q2, q3, q4⟩ := zwh_3 w
      obtain ⟨x, hx⟩ : ∃ x : Nat, zgrt F = x := ⟨(zgrt F).toNat, by omega⟩
      obtain ⟨y, hy⟩ : ∃ y : Nat, zgrt G = y := ⟨(zgrt G).toNat, by omega⟩
      obtain ⟨hFx, hFz⟩ : F (17 * x) ≠ 0 ∧ ∀ i : Nat, x < i → i < 17 → F (17 * i) = 0 := by
        rcases zgrt_sp F with ⟨a, _⟩ | ⟨k, k1, k2, k3, k4⟩
        · omega
        · have : k = x := by omega
          rw [← this]; exact ⟨k3, k4⟩
      have hGz : ∀ i : Nat, y < i → i < 17 → G (17 * i) = 0 := by
        rcases zgrt_sp G with ⟨a, _⟩ | ⟨k, k1, k2, k3, k4⟩
        · omega
        · have : k = y := by omega
          rw [← this]; exact k4
      obtain ⟨mn, hm⟩ : ∃ m, m = zcutm F G p := ⟨_, rfl⟩
      have sp := fun (i j : Nat) (hi : i < 17) (hj : j < 17) => zcut_sp (by omega) cG hx hy (by omega) (by omega) hi hj
      rw [← hm] at sp
      have cC : zcan p (zcut F G p) := zcut_can (by omega) (Int.le_refl _) cG
      have eG2 : ∀ i j, i + j < 17 → kgr φ (zcut F G p) i j = kgr φ G i j + φ mn * kc_mul (kc_t 1 (y - x) 0) (kgr φ F) i j := fun i j hij => by
        rw [kgr_t (by omega), kgr_t (by omega), sp i j (by omega) (by omega), kc_t_mul]
        by_cases q : y - x ≤ i
        · rw [if_pos ⟨q, by omega⟩, if_pos ⟨q, Nat.zero_le _⟩, h.em, h.ad, h.ml, ka_om, kgr_t (by omega), show j - 0 = j by omega]
        · rw [if_neg (fun z => q z.1), if_neg (fun z => q z.1), ka_mz, ka_az]
      have r2 : kz_rk (kz_V (kgr φ F) (kgr φ (zcut F G p))) n := hr.mono (fun v ⟨A, B, e⟩ => ⟨fun i j => A i j + (-φ mn) * kc_mul B (kc_t 1 (y - x) 0) i j, B, by
        rw [e]
        refine kz_w (fun i j hij => ?_)
        show kc_mul A (kgr φ F) i j + kc_mul B (kgr φ G) i j = kc_mul (fun i j => A i j + (-φ mn) * kc_mul B (kc_t 1 (y - x) 0) i j) (kgr φ F) i j + kc_mul B (kgr φ (zcut F G p)) i j
        rw [kc_mul_ac, kc_mul_assoc]
        have e1 : kc_mul B (kgr φ G) i j = kc_mul B (kgr φ (zcut F G p)) i j + (-φ mn) * kc_mul B (kc_mul (kc_t 1 (y - x) 0) (kgr φ F)) i j := by
          rw [kz_lo (d := 17) (F := B) (F' := B) (G := kgr φ G) (G' := fun i j => kgr φ (zcut F G p) i j + (-φ mn) * kc_mul (kc_t 1 (y - x) 0) (kgr φ F) i j) (fun _ _ _ => rfl) (fun a b hab => by
            show kgr φ G a b = kgr φ (zcut F G p) a b + (-φ mn) * kc_mul (kc_t 1 (y - x) 0) (kgr φ F) a b
            rw [eG2 a b hab]
            exact kz_q1 _ _ _) i j hij, kc_mul_comm, kc_mul_ac]
          show kc_mul (kgr φ (zcut F G p)) B i j + (-φ mn) * kc_mul (kc_mul (kc_t 1 (y - x) 0) (kgr φ F)) B i j = _
          rw [kc_mul_comm _ B, kc_mul_comm _ B]
        rw [e1]
        exact kz_q2 _ _ _ _ _ rfl⟩)
      have dn : zgrt (zcut F G p) < y := by
        have z0 : ∀ i : Nat, y ≤ i → i < 17 → zcut F G p (17 * i) = 0 := fun i h1 h2 => by
          have e := sp i 0 h2 (by omega)
          rw [show 17 * i + 0 = 17 * i by omega, if_pos (by omega), show 17 * (i - (y - x)) + 0 = 17 * (i - (y - x)) by omega] at e
          by_cases q : i = y
          · refine (h.z0 (cC _)).1 ?_
            rw [e, h.em, h.ad, h.ml, q, show y - (y - x) = x by omega, hm]
            unfold zcutm
            rw [hx, hy, show ((y : Int) * 17).toNat = 17 * y by omega, show ((x : Int) * 17).toNat = 17 * x by omega, h.sb, h.pz, h.em, h.ml]
            exact kz_q3 _ _ _ (zK_inv h hp.1 (fun z => hFx ((h.z0 (cF _)).1 z)))
          · rw [e, hGz i (by omega) h2, hFz (i - (y - x)) (by omega) (by omega), Int.mul_zero, Int.add_zero, Int.zero_emod]
        rcases zgrt_sp (zcut F G p) with ⟨a, _⟩ | ⟨k, k1, k2, k3, _⟩
        · omega
        · rw [k2]
          have : ¬ y ≤ k := fun z => k3 (z0 k z k1)
          omega
      have e1 : zpsi (zgrt F) (zgrt (zcut F G p)) < zpsi (zgrt F) (zgrt G) := by
        have a1 : zpsi (zgrt F) (zgrt (zcut F G p)) ≤ 2 * (zgrt F + 1 + (zgrt (zcut F G p) + 1)) + 1 := by
          unfold zpsi
          split <;> omega
        have a2 : 2 * (zgrt F + 1 + (zgrt G + 1)) ≤ zpsi (zgrt F) (zgrt G) := by
          unfold zpsi
          split <;> omega
        omega
      exact Or.inr (Or.inr (Or.inr ⟨w, zrE_of h hpr N n _ _ cF cC hn r2 (by omega)⟩))
end ZHd
