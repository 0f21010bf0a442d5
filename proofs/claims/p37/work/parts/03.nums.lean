section ZP
theorem ztm {n p : Int} (hp : 0 < p) : -p < Int.tmod n p ∧ Int.tmod n p < p := ⟨Int.lt_tmod_of_pos n hp, Int.tmod_lt_of_pos n hp⟩
theorem ztm_mod {n p : Int} : Int.tmod n p % p = n % p := by
  rw [Int.tmod_def, Int.sub_mul_emod_self_left]
theorem zmod1 {n p : Int} (hp : 0 < p) (h : 0 ≤ Int.tmod n p) : Int.tmod n p = n % p := by
  rw [← ztm_mod, Int.emod_eq_of_lt h (ztm hp).2]
theorem zmod2 {n p : Int} (hp : 0 < p) (h : Int.tmod n p < 0) : Int.tmod n p + p = n % p := by
  rw [← ztm_mod, ← Int.add_emod_right, Int.emod_eq_of_lt (by have := (ztm (n := n) hp).1; omega) (by omega)]
theorem zmr (n : Int) {p : Int} (hp : 0 < p) : 0 ≤ n % p ∧ n % p < p := ⟨Int.emod_nonneg n (by omega), Int.emod_lt_of_pos n hp⟩
/-- powers modulo p, as they are reckoned -/
def zpow (b p : Int) : Nat → Int
  | 0 => 1
  | k + 1 => (zpow b p k * b) % p
theorem zpow_rng (b : Int) {p : Int} (hp : 2 ≤ p) : ∀ k, 0 ≤ zpow b p k ∧ zpow b p k < p
  | 0 => by simp only [zpow]; omega
  | k + 1 => zmr _ (by omega)
/-- the first k from k on, below p, with a times k one modulo p; 0 -/
def zinvF (a p : Int) : Nat → Int → Int
  | 0, _ => 0
  | n + 1, k => if a * k % p = 1 then k else zinvF a p n (k + 1)
def zinv (a p : Int) : Int := zinvF a p (p - 1).toNat 1
theorem zinvF_rng (a p : Int) : ∀ (n : Nat) (k : Int), 1 ≤ k → k + n ≤ p → 0 ≤ zinvF a p n k ∧ zinvF a p n k < p
  | 0, k, h1, h2 => by simp only [zinvF]; omega
  | n + 1, k, h1, h2 => by
    simp only [zinvF]
    split
    · omega
    · exact zinvF_rng a p n (k + 1) (by omega) (by omega)
theorem zinv_rng (a : Int) {p : Int} (hp : 2 ≤ p) : 0 ≤ zinv a p ∧ zinv a p < p := zinvF_rng a p _ 1 (by omega) (by omega)
theorem zmul_rng {a b A B : Int} (ha : 0 ≤ a ∧ a ≤ A) (hb : 0 ≤ b ∧ b ≤ B) : 0 ≤ a * b ∧ a * b ≤ A * B := ⟨Int.mul_nonneg ha.1 hb.1, Int.mul_le_mul ha.2 hb.2 hb.1 (by omega)⟩
theorem zmul_abs {a b A B : Int} (ha : -A ≤ a ∧ a ≤ A) (hb : -B ≤ b ∧ b ≤ B) : -(A * B) ≤ a * b ∧ a * b ≤ A * B := by
  have h : (a * b).natAbs ≤ A.toNat * B.toNat := by
    rw [Int.natAbs_mul]
    exact Nat.mul_le_mul (by omega) (by omega)
  have h2 : ((A.toNat * B.toNat : Nat) : Int) = A * B := by rw [Int.natCast_mul, Int.toNat_of_nonneg (by omega), Int.toNat_of_nonneg (by omega)]
  omega
set_option maxRecDepth 100000 in
set_option maxHeartbeats 4000000 in
/-- mod: the rest, 0 or more -/
theorem c_mod (l : Launch) {D : va_G} {cI cJ cZ cP cS cM : ClassId} {L : List Nat} {sz : Nat} {f : Nat → va_E} (n p : Int) (hn : -2147483648 ≤ n ∧ n ≤ 2147483647) (hp : 2 ≤ p ∧ p ≤ 31) : zMi l yX11_mod wsX11_mod 0 0 D (zT cI cJ cZ cP cS cM) L sz f [.int (zI n), .int (zI p)] (fun z g => z = n % p ∧ g = f) := by
  refine zWalk.met (nL := 3) (ret := (some .int)) (cc := cX11_mod) (by decide) rfl (Nat.le_of_ble_eq_true rfl) ?_
  intro pg en st mi ag bl mt cd ls CX hW hl
  have CX : zC pg st mi ag mt cd cX11_mod 3 (some .int) RX11 wsX11_mod := CX
  generalize hQ : MQ bl _ ag st 0 0 _ = Q
  have hX0 := CX.1
  have hB0 := CX.2.1
  have hl : lv_has ls 3 [(0, .int (zI n)), (1, .int (zI p))] := hl
  obtain ⟨H, eH⟩ : ∃ H, H = st.heap := ⟨_, rfl⟩
  obtain ⟨locs, eL⟩ : ∃ L : List Loc, L = [] := ⟨_, rfl⟩
  have hW : zW D (zT cI cJ cZ cP cS cM) L (zQ L sz) st f st.heap H locs := by rw [eH, eL]; exact hW
  suffices hgo : W pg l en ({ frames := 0, cells := 0, slots := 0, locals := 0 } : Room) st mi ag bl mt cd H locs 0 0 Q (F0 mi 0 ls []) by rw [eH, eL] at hgo; exact hgo
  clear eH eL
  refine lv_iload_n hX0 hB0 dX11_mod_0 rfl (lv_at hl 1 rfl) ?_
  refine lv_iconst (v := zI 2) hX0 hB0 dX11_mod_1 rfl ?_
  refine z_icmp_ge (tgt := 7) CX dX11_mod_2 (by decide) (by constructor <;> omega) (by constructor <;> omega) (fun c_2 => ?_) (fun c_2 => ?_)
  ·
    refine lv_iload_n hX0 hB0 dX11_mod_7 rfl (lv_at hl 0 rfl) ?_
    refine lv_iload_n hX0 hB0 dX11_mod_8 rfl (lv_at hl 1 rfl) ?_
    refine z_irem (z := Int.tmod n p) CX dX11_mod_9 (by constructor <;> omega) (by constructor <;> omega) rfl ?_
    refine lv_istore_n (lv' := [(2, .int (zI (Int.tmod n p))), (0, .int (zI n)), (1, .int (zI p))]) hX0 hB0 dX11_mod_10 rfl hl (by decide) rfl (fun ls hl => ?_)
    refine lv_iload_n hX0 hB0 dX11_mod_11 rfl (lv_at hl 0 rfl) ?_
    have ht := ztm (n := n) (p := p) (by omega)
    refine z_if_ge (tgt := 21) CX dX11_mod_12 (by decide) (by constructor <;> omega) (fun c_12 => ?_) (fun c_12 => ?_)
    ·
      refine lv_iload_n hX0 hB0 dX11_mod_21 rfl (lv_at hl 0 rfl) ?_
      rw [← hQ]
      exact z_iret (z := Int.tmod n p) CX hW (by first | exact ⟨zmod1 (by omega) (by omega), rfl⟩ | exact ⟨zmod2 (by omega) (by omega), rfl⟩) rfl dX11_mod_22
    ·
      refine lv_iload_n hX0 hB0 dX11_mod_15 rfl (lv_at hl 0 rfl) ?_
      refine lv_iload_n hX0 hB0 dX11_mod_16 rfl (lv_at hl 2 rfl) ?_
      refine z_iadd (z := (Int.tmod n p) + p) CX dX11_mod_17 rfl ?_
      refine lv_goto (tgt := 22) hX0 hB0 dX11_mod_18 (by decide) ?_
      rw [← hQ]
      exact z_iret (z := (Int.tmod n p) + p) CX hW (by first | exact ⟨zmod1 (by omega) (by omega), rfl⟩ | exact ⟨zmod2 (by omega) (by omega), rfl⟩) rfl dX11_mod_22
  ·
    omega
set_option maxRecDepth 100000 in
set_option maxHeartbeats 4000000 in
/-- power: modulo p -/
theorem c_power (l : Launch) {D : va_G} {cI cJ cZ cP cS cM : ClassId} {L : List Nat} {sz : Nat} {f : Nat → va_E} (b n p : Int) (hb0 : -1000000 ≤ b ∧ b ≤ 1000000) (hn : n ≤ 4) (hn1 : -1000 ≤ n) (hp : 2 ≤ p ∧ p ≤ 31) : zMi l yX11_power wsX11_power 1 22 D (zT cI cJ cZ cP cS cM) L sz f [.int (zI b), .int (zI n), .int (zI p)] (fun z g => z = zpow b p n.toNat ∧ g = f) := by
  refine zWalk.met (nL := 5) (ret := (some .int)) (cc := cX11_power) (by decide) rfl (Nat.le_of_ble_eq_true rfl) ?_
  intro pg en st mi ag bl mt cd ls CX hW hl
  have CX : zC pg st mi ag mt cd cX11_power 5 (some .int) RX11 wsX11_power := CX
  generalize hQ : MQ bl _ ag st 0 0 _ = Q
  have hX0 := CX.1
  have hB0 := CX.2.1
  have hl : lv_has ls 5 [(0, .int (zI b)), (1, .int (zI n)), (2, .int (zI p))] := hl
  obtain ⟨H, eH⟩ : ∃ H, H = st.heap := ⟨_, rfl⟩
  obtain ⟨locs, eL⟩ : ∃ L : List Loc, L = [] := ⟨_, rfl⟩
  have hW : zW D (zT cI cJ cZ cP cS cM) L (zQ L sz) st f st.heap H locs := by rw [eH, eL]; exact hW
  suffices hgo : W pg l en ({ frames := 1, cells := 0, slots := 0, locals := 22 } : Room) st mi ag bl mt cd H locs 0 0 Q (F0 mi 0 ls []) by rw [eH, eL] at hgo; exact hgo
  clear eH eL
  refine lv_iconst (v := zI 1) hX0 hB0 dX11_power_0 rfl ?_
  refine lv_istore_n (lv' := [(3, .int (zI 1)), (0, .int (zI b)), (1, .int (zI n)), (2, .int (zI p))]) hX0 hB0 dX11_power_1 rfl hl (by decide) rfl (fun ls hl => ?_)
  refine lv_iconst (v := zI 0) hX0 hB0 dX11_power_2 rfl ?_
  refine lv_istore (lv' := [(4, .int (zI 0)), (3, .int (zI 1)), (0, .int (zI b)), (1, .int (zI n)), (2, .int (zI p))]) hX0 hB0 dX11_power_3 hl (by decide) rfl (fun ls hl => ?_)
  have hL5 : ∀ (fu : Nat) (k : Int) (r : Int), (0 ≤ k ∧ (k ≤ n ∨ k = 0) ∧ r = zpow b p k.toNat) → (5 - k).toNat < fu → ∀ (H : Heap) (locs : List Loc) (ls : Array Slot), zW D (zT cI cJ cZ cP cS cM) L (zQ L sz) st f st.heap H locs → lv_has ls 5 [(4, .int (zI k)), (3, .int (zI r)), (0, .int (zI b)), (1, .int (zI n)), (2, .int (zI p))] → W pg l en ({ frames := 1, cells := 0, slots := 0, locals := 22 } : Room) st mi ag bl mt cd H locs 0 0 Q (F0 mi 5 ls []) := by
    intro fu
    induction fu with
    | zero => intro k r _ hfu; exact absurd hfu (Nat.not_lt_zero _)
    | succ fu ih5 =>
      intro k r hinv5 hfu5 H locs ls hW hl
      obtain ⟨hk0, hk1, hkr⟩ := hinv5
      have hz := zpow_rng b (p := p) (by omega) k.toNat
      rw [← hkr] at hz
      have hzb := zmul_abs (a := r) (b := b) (A := 31) (B := 1000000) (by omega) (by omega)
      refine lv_iload hX0 hB0 dX11_power_5 (lv_at hl 0 rfl) ?_
      refine lv_iload_n hX0 hB0 dX11_power_7 rfl (lv_at hl 3 rfl) ?_
      refine z_icmp_ge (tgt := 31) CX dX11_power_8 (by decide) (by constructor <;> omega) (by constructor <;> omega) (fun c_8 => ?_) (fun c_8 => ?_)
      ·
        refine lv_iload_n hX0 hB0 dX11_power_31 rfl (lv_at hl 1 rfl) ?_
        rw [← hQ]
        exact z_iret (z := r) CX hW (by exact ⟨by rw [hkr]; congr 1; omega, rfl⟩) rfl dX11_power_32
      ·
        refine lv_iload hX0 hB0 dX11_power_11 (lv_at hl 0 rfl) ?_
        refine lv_iconst (v := zI 4) hX0 hB0 dX11_power_13 rfl ?_
        refine z_icmp_ge (tgt := 31) CX dX11_power_14 (by decide) (by constructor <;> omega) (by constructor <;> omega) (fun c_14 => ?_) (fun c_14 => ?_)
        ·
          omega
        ·
          refine lv_iload_n hX0 hB0 dX11_power_17 rfl (lv_at hl 1 rfl) ?_
          refine lv_iload_n hX0 hB0 dX11_power_18 rfl (lv_at hl 2 rfl) ?_
          refine z_imul (z := r * b) CX dX11_power_19 rfl ?_
          refine lv_iload_n hX0 hB0 dX11_power_20 rfl (lv_at hl 4 rfl) ?_
          refine z_calli hW (va_runS (As := [.int (zI (r * b)), .int (zI p)]) (rest := []) CX.fix (c_mod l (f := f) (r * b) p (by constructor <;> omega) (by constructor <;> omega)) (va_cwS 2 CX.fix.2.2.2.2 gX11_power_X11_mod rfl rfl rfl (by decide +kernel) ⟨Nat.le_of_ble_eq_true rfl, Nat.le_of_ble_eq_true rfl⟩) (z_preS CX hW) rfl rfl hl.1 rfl (lv_room (Nat.le_of_ble_eq_true rfl)) dX11_power_21 ⟨Nat.zero_le _, Nat.zero_le _⟩) (fun zv gn H locs hok21 hW => ?_)
          obtain ⟨ez, eg⟩ := hok21
          have eg : gn = f := eg
          rw [eg] at hW
          clear eg
          have ez : zv = (r * b) % p := ez
          rw [ez]
          clear ez
          have hm21 := zmr (r * b) (p := p) (by omega)
          refine lv_istore_n (lv' := [(3, .int (zI ((r * b) % p))), (4, .int (zI k)), (0, .int (zI b)), (1, .int (zI n)), (2, .int (zI p))]) hX0 hB0 dX11_power_24 rfl hl (by decide) rfl (fun ls hl => ?_)
          refine lv_iinc (v := zI (k + 1)) (lv' := [(4, .int (zI (k + 1))), (3, .int (zI ((r * b) % p))), (0, .int (zI b)), (1, .int (zI n)), (2, .int (zI p))]) hX0 hB0 dX11_power_25 hl (k := 1) rfl (zI_add _ _) (by decide) rfl (fun ls hl => ?_)
          refine lv_goto (tgt := 5) hX0 hB0 dX11_power_28 (by decide) ?_
          exact ih5 (k + 1) ((r * b) % p) ⟨by omega, by omega, by rw [show (k + 1).toNat = k.toNat + 1 by omega, hkr]; rfl⟩ (by omega) H locs ls hW (lv_sub hl [0, 1, 2, 3, 4] rfl)
  exact hL5 _ 0 1 ⟨by omega, Or.inr rfl, rfl⟩ (Nat.lt_succ_self _) H locs ls hW (lv_sub hl [0, 1, 2, 3, 4] rfl)
set_option maxRecDepth 100000 in
set_option maxHeartbeats 4000000 in
/-- inverse: by trying -/
theorem c_inverse (l : Launch) {D : va_G} {cI cJ cZ cP cS cM : ClassId} {L : List Nat} {sz : Nat} {f : Nat → va_E} (a p : Int) (ha : 0 ≤ a ∧ a ≤ 1000000) (hp : 2 ≤ p ∧ p ≤ 31) : zMi l yX11_inverse wsX11_inverse 0 0 D (zT cI cJ cZ cP cS cM) L sz f [.int (zI a), .int (zI p)] (fun z g => z = zinv a p ∧ g = f) := by
  refine zWalk.met (nL := 3) (ret := (some .int)) (cc := cX11_inverse) (by decide) rfl (Nat.le_of_ble_eq_true rfl) ?_
  intro pg en st mi ag bl mt cd ls CX hW hl
  have CX : zC pg st mi ag mt cd cX11_inverse 3 (some .int) RX11 wsX11_inverse := CX
  generalize hQ : MQ bl _ ag st 0 0 _ = Q
  have hX0 := CX.1
  have hB0 := CX.2.1
  have hl : lv_has ls 3 [(0, .int (zI a)), (1, .int (zI p))] := hl
  obtain ⟨H, eH⟩ : ∃ H, H = st.heap := ⟨_, rfl⟩
  obtain ⟨locs, eL⟩ : ∃ L : List Loc, L = [] := ⟨_, rfl⟩
  have hW : zW D (zT cI cJ cZ cP cS cM) L (zQ L sz) st f st.heap H locs := by rw [eH, eL]; exact hW
  suffices hgo : W pg l en ({ frames := 0, cells := 0, slots := 0, locals := 0 } : Room) st mi ag bl mt cd H locs 0 0 Q (F0 mi 0 ls []) by rw [eH, eL] at hgo; exact hgo
  clear eH eL
  refine lv_iconst (v := zI 1) hX0 hB0 dX11_inverse_0 rfl ?_
  refine lv_istore_n (lv' := [(2, .int (zI 1)), (0, .int (zI a)), (1, .int (zI p))]) hX0 hB0 dX11_inverse_1 rfl hl (by decide) rfl (fun ls hl => ?_)
  have hL2 : ∀ (fu : Nat) (k : Int), (1 ≤ k ∧ k ≤ p ∧ zinv a p = zinvF a p (p - k).toNat k) → (p - k).toNat < fu → ∀ (H : Heap) (locs : List Loc) (ls : Array Slot), zW D (zT cI cJ cZ cP cS cM) L (zQ L sz) st f st.heap H locs → lv_has ls 3 [(2, .int (zI k)), (0, .int (zI a)), (1, .int (zI p))] → W pg l en ({ frames := 0, cells := 0, slots := 0, locals := 0 } : Room) st mi ag bl mt cd H locs 0 0 Q (F0 mi 2 ls []) := by
    intro fu
    induction fu with
    | zero => intro k _ hfu; exact absurd hfu (Nat.not_lt_zero _)
    | succ fu ih2 =>
      intro k hinv2 hfu2 H locs ls hW hl
      obtain ⟨hk0, hk1, hk2⟩ := hinv2
      have hak := zmul_rng (a := a) (b := k) (A := 1000000) (B := 31) (by omega) (by omega)
      refine lv_iload_n hX0 hB0 dX11_inverse_2 rfl (lv_at hl 0 rfl) ?_
      refine lv_iload_n hX0 hB0 dX11_inverse_3 rfl (lv_at hl 2 rfl) ?_
      refine z_icmp_ge (tgt := 29) CX dX11_inverse_4 (by decide) (by constructor <;> omega) (by constructor <;> omega) (fun c_4 => ?_) (fun c_4 => ?_)
      ·
        refine lv_iconst (v := zI 0) hX0 hB0 dX11_inverse_29 rfl ?_
        rw [← hQ]
        exact z_iret (z := 0) CX hW (by exact ⟨by rw [hk2, show (p - k).toNat = 0 by omega]; rfl, rfl⟩) rfl dX11_inverse_30
      ·
        refine lv_iload_n hX0 hB0 dX11_inverse_7 rfl (lv_at hl 2 rfl) ?_
        refine lv_iconst (v := zI 1) hX0 hB0 dX11_inverse_8 rfl ?_
        refine z_icmp_le (tgt := 29) CX dX11_inverse_9 (by decide) (by constructor <;> omega) (by constructor <;> omega) (fun c_9 => ?_) (fun c_9 => ?_)
        ·
          omega
        ·
          refine lv_iload_n hX0 hB0 dX11_inverse_12 rfl (lv_at hl 1 rfl) ?_
          refine lv_iload_n hX0 hB0 dX11_inverse_13 rfl (lv_at hl 0 rfl) ?_
          refine z_imul (z := a * k) CX dX11_inverse_14 rfl ?_
          refine lv_iload_n hX0 hB0 dX11_inverse_15 rfl (lv_at hl 2 rfl) ?_
          have hs : zinvF a p (p - k).toNat k = if a * k % p = 1 then k else zinvF a p (p - (k + 1)).toNat (k + 1) := by rw [show (p - k).toNat = (p - (k + 1)).toNat + 1 by omega]; rfl
          have hmm := zmr (a * k) (p := p) (by omega)
          refine z_irem (z := a * k % p) CX dX11_inverse_16 (by constructor <;> omega) (by constructor <;> omega) (Int.tmod_eq_emod_of_nonneg hak.1) ?_
          refine lv_iconst (v := zI 1) hX0 hB0 dX11_inverse_17 rfl ?_
          refine z_icmp_ne (tgt := 23) CX dX11_inverse_18 (by decide) (by constructor <;> omega) (by constructor <;> omega) (fun c_18 => ?_) (fun c_18 => ?_)
          ·
            have hne : ¬ a * k % p = 1 := c_18
            refine lv_iinc (v := zI (k + 1)) (lv' := [(2, .int (zI (k + 1))), (0, .int (zI a)), (1, .int (zI p))]) hX0 hB0 dX11_inverse_23 hl (k := 0) rfl (zI_add _ _) (by decide) rfl (fun ls hl => ?_)
            refine lv_goto (tgt := 2) hX0 hB0 dX11_inverse_26 (by decide) ?_
            exact ih2 (k + 1) ⟨by omega, by omega, by rw [hk2, hs, if_neg hne]⟩ (by omega) H locs ls hW (lv_sub hl [0, 1, 2] rfl)
          ·
            refine lv_iload_n hX0 hB0 dX11_inverse_21 rfl (lv_at hl 0 rfl) ?_
            rw [← hQ]
            exact z_iret (z := k) CX hW (by exact ⟨by rw [hk2, hs, if_pos c_18], rfl⟩) rfl dX11_inverse_22
  exact hL2 _ 1 ⟨by omega, by omega, rfl⟩ (Nat.lt_succ_self _) H locs ls hW (lv_sub hl [0, 1, 2] rfl)
end ZP
