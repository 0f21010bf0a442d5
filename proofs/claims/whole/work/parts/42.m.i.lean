section ZMm
/-- how many are not -1 -/
def zcnt (c : Nat → Int) : Nat → Int
  | 0 => 0
  | n + 1 => zcnt c n + (if c n = -1 then 0 else 1)
theorem zcnt_le (c : Nat → Int) : ∀ n : Nat, 0 ≤ zcnt c n ∧ zcnt c n ≤ n
  | 0 => by simp only [zcnt]; omega
  | n + 1 => by
    have := zcnt_le c n
    simp only [zcnt]
    split <;> omega
theorem zcnt_lt {c : Nat → Int} {k : Nat} (hk : c k = -1) : ∀ n : Nat, k < n → zcnt c n ≤ (n : Int) - 1
  | 0, h => by omega
  | n + 1, h => by
    have h1 := zcnt_le c n
    simp only [zcnt]
    by_cases e : k = n
    · rw [if_pos (by rw [← e]; exact hk)]
      omega
    · have := zcnt_lt hk n (by omega)
      split <;> omega
theorem zcnt_same {c d : Nat → Int} : ∀ n : Nat, (∀ q, q < n → c q = d q) → zcnt c n = zcnt d n
  | 0, _ => rfl
  | n + 1, h => by simp only [zcnt]; rw [zcnt_same n (fun q hq => h q (by omega)), h n (by omega)]
theorem zcnt_up {c d : Nat → Int} {k : Nat} (hk : c k = -1) (hd : d k ≠ -1) (hs : ∀ q, q ≠ k → d q = c q) : ∀ n : Nat, k < n → zcnt d n = zcnt c n + 1
  | 0, h => by omega
  | n + 1, h => by
    simp only [zcnt]
    by_cases e : k = n
    · rw [zcnt_same (d := c) n (fun q hq => hs q (by omega)), ← e, if_neg hd, if_pos hk]
      omega
    · rw [zcnt_up hk hd hs n (by omega), hs n (by omega)]
      omega
theorem zcnt_0 {c : Nat → Int} : ∀ n : Nat, (∀ q, q < n → c q = -1) → zcnt c n = 0
  | 0, _ => rfl
  | n + 1, h => by simp only [zcnt]; rw [zcnt_0 n (fun q hq => h q (by omega)), if_pos (h n (by omega))]; rfl
def zmt (d : Int) : Int := (d + 1) * (d + 2) / 2
theorem zmt_tab : ∀ n : Nat, n < 25 → zmt n = ((([1, 3, 6, 10, 15, 21, 28, 36, 45, 55, 66, 78, 91, 105, 120, 136, 153, 171, 190, 210, 231, 253, 276, 300, 325] : List Nat).getD n 0 : Nat) : Int) := by decide +kernel
theorem zmt_bd : ∀ n : Nat, n < 25 → 0 ≤ zmt n ∧ zmt n ≤ 325 ∧ (n ≤ 3 → zmt n ≤ 10) ∧ (n ≤ 4 → zmt n ≤ 15) := by decide +kernel
theorem zmt_rng {d : Int} (h : 0 ≤ d ∧ d ≤ 24) : 0 ≤ zmt d ∧ zmt d ≤ 325 ∧ (d ≤ 3 → zmt d ≤ 10) ∧ (d ≤ 4 → zmt d ≤ 15) := by
  have := zmt_bd d.toNat (by omega)
  rw [Int.toNat_of_nonneg h.1] at this
  exact ⟨this.1, this.2.1, fun q => this.2.2.1 (by omega), fun q => this.2.2.2 (by omega)⟩
theorem zcol_bd : ∀ n : Nat, n < 25 → ((n : Int) * (n + 1) / 2 = zmt n - n - 1) := by decide +kernel
theorem zcol_mt {i j : Int} (hi : 0 ≤ i) (hj : 0 ≤ j) (h : i + j ≤ 24) : zcol i j = zmt (i + j) - i - 1 := by
  have := zcol_bd (i + j).toNat (by omega)
  rw [Int.toNat_of_nonneg (by omega)] at this
  unfold zcol
  omega
theorem zcol_b {i j : Int} (hi : 0 ≤ i) (hj : 0 ≤ j) (h : i + j ≤ 24) : 0 ≤ zcol i j ∧ zcol i j ≤ 324 ∧ (i + j ≤ 8 → zcol i j ≤ 44) ∧ (i + j ≤ 4 → zcol i j ≤ 14) ∧ (i + j ≤ 3 → zcol i j ≤ 9) := by
  have h2 := zmt_rng (d := i + j) (by omega)
  have h1 := zcol_mt hi hj h
  have h0 : 0 ≤ zcol i j := (zcol_rng (i := i) (j := j) (by omega) (by omega)).1
  refine ⟨h0, by omega, fun q => zcol_8 hi hj q, fun q => ?_, fun q => ?_⟩
  · have := h2.2.2.2 (by omega)
    omega
  · have := h2.2.2.1 (by omega)
    omega
theorem zcol_t {i j : Int} (hi : 0 ≤ i) (hj : 0 ≤ j) : Int.tdiv ((i + j) * (i + j + 1)) 2 + j = zcol i j := by
  unfold zcol
  rw [Int.tdiv_eq_ediv_of_nonneg (Int.mul_nonneg (by omega) (by omega))]
theorem zmt_t {d : Int} (hd : 0 ≤ d) : Int.tdiv ((d + 1) * (d + 2)) 2 = zmt d := by
  unfold zmt
  rw [Int.tdiv_eq_ediv_of_nonneg (Int.mul_nonneg (by omega) (by omega))]
def zm_beginsPile_L12  : Int → zS2 → zS2 := fun i12 s12 => (fun (S12 : zS2) => zlet (za S12 11 i12.toNat (-1)) (fun S23 => S23)) s12
def zm_beginsPile (S : zS2) (wd : Int) : zS2 := zlet (za S 0 23 0) (fun S2 => zlet (za S2 0 24 wd) (fun S7 => zlet (zfor (zm_beginsPile_L12) 0 S7 ((wd - 1) + 1 - 0).toNat) (fun S12 => S12)))
set_option maxRecDepth 100000 in
set_option maxHeartbeats 4000000 in
theorem zk_beginsPile (l : Launch) {D : va_G} {cI cJ cZ cP cS cM : ClassId} {L : List Nat} {sz : Nat} {f : Nat → va_E} (o : Nat) (S : zS2) (wd : Int) (hI : mI S) (hwd : 0 ≤ wd ∧ wd ≤ 325) : zMv l yX12_beginsPile wsX12_beginsPile 0 0 D (zT cI cJ cZ cP cS cM) L sz (zMO cI cJ o S f) [.ref o, .int (zI wd)] (fun gv => gv = zMO cI cJ o (zm_beginsPile S wd) f ∧ mI (zm_beginsPile S wd) ∧ (∀ kk ii : Nat, ¬ (kk = 0 ∧ ii = 23) ∧ ¬ (kk = 0 ∧ ii = 24) ∧ ¬ kk = 11 → (zm_beginsPile S wd) kk ii = S kk ii) ∧ (zm_beginsPile S wd) 0 23 = 0 ∧ (zm_beginsPile S wd) 0 24 = wd ∧ (zm_beginsPile S wd) 0 23 = zcnt ((zm_beginsPile S wd) 11) ((zm_beginsPile S wd) 0 24).toNat) := by
  refine zWalk.met (nL := 3) (ret := none) (cc := cX12_beginsPile) (by decide) rfl (Nat.le_of_ble_eq_true rfl) ?_
  intro pg en st mi ag bl mt cd ls CX hW hl
  have CX : zC pg st mi ag mt cd cX12_beginsPile 3 none RX12 wsX12_beginsPile := CX
  generalize hQ : MQ bl _ ag st 0 0 _ = Q
  have hX0 := CX.1
  have hB0 := CX.2.1
  have hl : lv_has ls 3 [(0, .ref o), (1, .int (zI wd))] := hl
  obtain ⟨H, eH⟩ : ∃ H, H = st.heap := ⟨_, rfl⟩
  obtain ⟨locs, eL⟩ : ∃ L : List Loc, L = [] := ⟨_, rfl⟩
  have hW : zW D (zT cI cJ cZ cP cS cM) L (zQ L sz) st (zMO cI cJ o S f) st.heap H locs := by rw [eH, eL]; exact hW
  suffices hgo : W pg l en ({ frames := 0, cells := 0, slots := 0, locals := 0 } : Room) st mi ag bl mt cd H locs 0 0 Q (F0 mi 0 ls []) by rw [eH, eL] at hgo; exact hgo
  clear eH eL
  have hpb := hI.s10
  refine lv_aload_n hX0 hB0 dX12_beginsPile_0 rfl (lv_at hl 0 rfl) ?_
  refine lv_iconst (v := zI 0) hX0 hB0 dX12_beginsPile_1 rfl ?_
  obtain ⟨S2, e2⟩ : ∃ q, za S 0 23 0 = q := ⟨_, rfl⟩
  refine z_put (Cn := RX12) (T := TX12) (N := 37) CX hW (v := .int (zI 0)) zMO_0 rfl (fun w h => List.mem_cons_of_mem _ (List.mem_append_right _ h)) tyX12 tyX12_ok nmX12 23 (by decide) (List.mem_of_getElem? (i := 1) rfl) rfl rfl rfl rfl (Nat.le_of_ble_eq_true rfl) (g := zMO cI cJ o S2 f) (zMO_s23.trans (by rw [e2])) dX12_beginsPile_2 (fun H locs hW => ?_)
  have hI2 : mI S2 := e2 ▸ hI.v23 (by constructor <;> omega)
  have t2_23 : S2 0 23 = 0 := by rw [← e2]; exact za_same
  have t2_24 : S2 0 24 = S 0 24 := by rw [← e2]; exact za_ne (by omega)
  refine lv_aload_n hX0 hB0 dX12_beginsPile_5 rfl (lv_at hl 0 rfl) ?_
  refine lv_iload_n hX0 hB0 dX12_beginsPile_6 rfl (lv_at hl 1 rfl) ?_
  obtain ⟨S7, e7⟩ : ∃ q, za S2 0 24 wd = q := ⟨_, rfl⟩
  refine z_put (Cn := RX12) (T := TX12) (N := 37) CX hW (v := .int (zI wd)) zMO_0 rfl (fun w h => List.mem_cons_of_mem _ (List.mem_append_right _ h)) tyX12 tyX12_ok nmX12 24 (by decide) (List.mem_of_getElem? (i := 2) rfl) rfl rfl rfl rfl (Nat.le_of_ble_eq_true rfl) (g := zMO cI cJ o S7 f) (zMO_s24.trans (by rw [e7])) dX12_beginsPile_7 (fun H locs hW => ?_)
  have hI7 : mI S7 := e7 ▸ hI2.v24 (by constructor <;> omega)
  have t7_23 : S7 0 23 = S2 0 23 := by rw [← e7]; exact za_ne (by omega)
  have t7_24 : S7 0 24 = wd := by rw [← e7]; exact za_same
  refine lv_iconst (v := zI 0) hX0 hB0 dX12_beginsPile_10 rfl ?_
  refine lv_istore_n (lv' := [(2, .int (zI 0)), (0, .ref o), (1, .int (zI wd))]) hX0 hB0 dX12_beginsPile_11 rfl hl (by decide) rfl (fun ls hl => ?_)
  have hL12 : ∀ (fu : Nat) (i12 : Int) (S12 : zS2), ((0 ≤ i12 ∧ i12 ≤ wd - 1 + 1) ∧ zfor (zm_beginsPile_L12) 0 S7 (i12 - 0).toNat = S12 ∧ mI S12 ∧ (∀ kk ii : Nat, ¬ kk = 11 → S12 kk ii = S7 kk ii) ∧ (∀ q : Nat, (q : Int) < i12 → S12 11 q = -1)) → ((wd - 1) + 1 - i12).toNat < fu → ∀ (H : Heap) (locs : List Loc) (ls : Array Slot), zW D (zT cI cJ cZ cP cS cM) L (zQ L sz) st (zMO cI cJ o S12 f) st.heap H locs → lv_has ls 3 [(2, .int (zI i12)), (0, .ref o), (1, .int (zI wd))] → W pg l en ({ frames := 0, cells := 0, slots := 0, locals := 0 } : Room) st mi ag bl mt cd H locs 0 0 Q (F0 mi 12 ls []) := by
    intro fu
    induction fu with
    | zero => intro i12 S12 _ hfu; exact absurd hfu (Nat.not_lt_zero _)
    | succ fu ih12 =>
      intro i12 S12 hinv hfu12 H locs ls hW hl
      obtain ⟨⟨hlo12, hhi12⟩, hz12, hI12, hf12, hv12⟩ := hinv
      have hp12 := hI12.s10
      have t12_23 : S12 0 23 = S7 0 23 := hf12 0 23 (by omega)
      have t12_24 : S12 0 24 = S7 0 24 := hf12 0 24 (by omega)
      refine lv_iload_n hX0 hB0 dX12_beginsPile_12 rfl (lv_at hl 0 rfl) ?_
      refine lv_iload_n hX0 hB0 dX12_beginsPile_13 rfl (lv_at hl 2 rfl) ?_
      refine z_icmp_ge (tgt := 30) CX dX12_beginsPile_14 (by decide) (by constructor <;> omega) (by constructor <;> omega) (fun c_14 => ?_) (fun c_14 => ?_)
      ·
        have e12 : zfor (zm_beginsPile_L12) 0 S7 ((wd - 1) + 1 - 0).toNat = S12 := by rw [show ((wd - 1) + 1 - 0).toNat = (i12 - 0).toNat by omega]; exact hz12
        have hE : zm_beginsPile S wd = S12 := by unfold zm_beginsPile; exact zlet_e e2 (zlet_e e7 (zlet_e e12 rfl))
        have hFr : ∀ kk ii : Nat, ¬ (kk = 0 ∧ ii = 23) ∧ ¬ (kk = 0 ∧ ii = 24) ∧ ¬ kk = 11 → S12 kk ii = S kk ii := fun kk ii hk => (((hf12 kk ii (by omega))).trans (show S7 kk ii = S2 kk ii from by rw [← e7]; exact za_ne (by omega))).trans (show S2 kk ii = S kk ii from by rw [← e2]; exact za_ne (by omega))
        rw [← hQ]
        exact z_vret CX hW (by rw [hE]; exact ⟨rfl, hI12, hFr, (show S12 0 23 = 0 ∧ S12 0 24 = wd ∧ S12 0 23 = zcnt (S12 11) (S12 0 24).toNat from by (refine ⟨by omega, by omega, ?_⟩; rw [zcnt_0 _ (fun q hq => hv12 q (by omega))]; omega))⟩) dX12_beginsPile_30
      ·
        refine lv_aload_n hX0 hB0 dX12_beginsPile_17 rfl (lv_at hl 1 rfl) ?_
        refine z_get (Cn := RX12) (T := TX12) (N := 37) CX hW (v := .ref (o + 11)) zMO_0 rfl (fun w h => List.mem_cons_of_mem _ (List.mem_append_right _ h)) 22 (by decide) (List.mem_of_getElem? (i := 3) rfl) rfl rfl dX12_beginsPile_18 ?_
        refine lv_iload_n hX0 hB0 dX12_beginsPile_21 rfl (lv_at hl 0 rfl) ?_
        refine lv_iconst (v := zI (-1)) hX0 hB0 dX12_beginsPile_22 rfl ?_
        obtain ⟨S23, e23⟩ : ∃ q, za S12 11 i12.toNat (-1) = q := ⟨_, rfl⟩
        refine z_iast CX hW zMO_11 0 rfl (by refine ⟨?_, ?_, ?_⟩ <;> omega) (g := zMO cI cJ o S23 f) (zMO_w11.trans (by rw [← e23]; rfl)) dX12_beginsPile_23 (fun H locs hW => ?_)
        have hI23 : mI S23 := e23 ▸ hI12.w11 (by constructor <;> omega)
        have t23_23 : S23 0 23 = S12 0 23 := by rw [← e23]; exact za_ne (by omega)
        have t23_24 : S23 0 24 = S12 0 24 := by rw [← e23]; exact za_ne (by omega)
        refine lv_iinc (v := zI (i12 + 1)) (lv' := [(2, .int (zI (i12 + 1))), (0, .ref o), (1, .int (zI wd))]) hX0 hB0 dX12_beginsPile_24 hl (k := 0) rfl (zI_add _ _) (by decide) rfl (fun ls hl => ?_)
        refine lv_goto (tgt := 12) hX0 hB0 dX12_beginsPile_27 (by decide) ?_
        exact ih12 (i12 + 1) S23 ⟨⟨by omega, by omega⟩, (zfor_s _ _ _ (by omega)).trans ((congrArg (zm_beginsPile_L12 i12) hz12).trans (by unfold zm_beginsPile_L12; exact zlet_e e23 rfl)), hI23, fun kk ii hk => ((show S23 kk ii = S12 kk ii from by rw [← e23]; exact za_ne (by omega))).trans (hf12 kk ii (by omega)), fun q hq => by
          by_cases e : q = i12.toNat
          · rw [e, ← e23, za_same]
          · rw [← e23, za_ne (fun h => e h.2)]; exact hv12 q (by omega)⟩ (by omega) H locs ls hW (lv_sub hl [0, 1, 2] rfl)
  exact hL12 _ 0 S7 ⟨⟨by omega, by omega⟩, zfor_0 _ _ _, hI7, fun kk ii hk => rfl, fun q hq => by omega⟩ (Nat.lt_succ_self _) H locs ls hW (lv_sub hl [0, 1, 2] rfl)
def zm_emptiesVector_L2  : Int → zS2 → zS2 := fun i2 s2 => (fun (S2 : zS2) => zlet (za S2 12 i2.toNat 0) (fun S16 => S16)) s2
def zm_emptiesVector (S : zS2)  : zS2 := zlet (zfor (zm_emptiesVector_L2) 0 S ((S 0 24 - 1) + 1 - 0).toNat) (fun S2 => S2)
set_option maxRecDepth 100000 in
set_option maxHeartbeats 4000000 in
theorem zk_emptiesVector (l : Launch) {D : va_G} {cI cJ cZ cP cS cM : ClassId} {L : List Nat} {sz : Nat} {f : Nat → va_E} (o : Nat) (S : zS2)  (hI : mI S)  : zMv l yX12_emptiesVector wsX12_emptiesVector 0 0 D (zT cI cJ cZ cP cS cM) L sz (zMO cI cJ o S f) [.ref o] (fun gv => gv = zMO cI cJ o (zm_emptiesVector S) f ∧ mI (zm_emptiesVector S) ∧ (∀ kk ii : Nat, ¬ kk = 12 → (zm_emptiesVector S) kk ii = S kk ii) ∧ True) := by
  refine zWalk.met (nL := 2) (ret := none) (cc := cX12_emptiesVector) (by decide) rfl (Nat.le_of_ble_eq_true rfl) ?_
  intro pg en st mi ag bl mt cd ls CX hW hl
  have CX : zC pg st mi ag mt cd cX12_emptiesVector 2 none RX12 wsX12_emptiesVector := CX
  generalize hQ : MQ bl _ ag st 0 0 _ = Q
  have hX0 := CX.1
  have hB0 := CX.2.1
  have hl : lv_has ls 2 [(0, .ref o)] := hl
  obtain ⟨H, eH⟩ : ∃ H, H = st.heap := ⟨_, rfl⟩
  obtain ⟨locs, eL⟩ : ∃ L : List Loc, L = [] := ⟨_, rfl⟩
  have hW : zW D (zT cI cJ cZ cP cS cM) L (zQ L sz) st (zMO cI cJ o S f) st.heap H locs := by rw [eH, eL]; exact hW
  suffices hgo : W pg l en ({ frames := 0, cells := 0, slots := 0, locals := 0 } : Room) st mi ag bl mt cd H locs 0 0 Q (F0 mi 0 ls []) by rw [eH, eL] at hgo; exact hgo
  clear eH eL
  have hpb := hI.s10
  have hb24 := hI.s24
  refine lv_iconst (v := zI 0) hX0 hB0 dX12_emptiesVector_0 rfl ?_
  refine lv_istore_n (lv' := [(1, .int (zI 0)), (0, .ref o)]) hX0 hB0 dX12_emptiesVector_1 rfl hl (by decide) rfl (fun ls hl => ?_)
  have hL2 : ∀ (fu : Nat) (i2 : Int) (S2 : zS2), ((0 ≤ i2 ∧ i2 ≤ S 0 24 - 1 + 1) ∧ zfor (zm_emptiesVector_L2) 0 S (i2 - 0).toNat = S2 ∧ mI S2 ∧ (∀ kk ii : Nat, ¬ kk = 12 → S2 kk ii = S kk ii)) → ((S 0 24 - 1) + 1 - i2).toNat < fu → ∀ (H : Heap) (locs : List Loc) (ls : Array Slot), zW D (zT cI cJ cZ cP cS cM) L (zQ L sz) st (zMO cI cJ o S2 f) st.heap H locs → lv_has ls 2 [(1, .int (zI i2)), (0, .ref o)] → W pg l en ({ frames := 0, cells := 0, slots := 0, locals := 0 } : Room) st mi ag bl mt cd H locs 0 0 Q (F0 mi 2 ls []) := by
    intro fu
    induction fu with
    | zero => intro i2 S2 _ hfu; exact absurd hfu (Nat.not_lt_zero _)
    | succ fu ih2 =>
      intro i2 S2 hinv hfu2 H locs ls hW hl
      obtain ⟨⟨hlo2, hhi2⟩, hz2, hI2, hf2⟩ := hinv
      have hp2 := hI2.s10
      have t2_24 : S2 0 24 = S 0 24 := hf2 0 24 (by omega)
      refine lv_iload_n hX0 hB0 dX12_emptiesVector_2 rfl (lv_at hl 0 rfl) ?_
      refine lv_aload_n hX0 hB0 dX12_emptiesVector_3 rfl (lv_at hl 1 rfl) ?_
      refine z_get (Cn := RX12) (T := TX12) (N := 37) CX hW (v := .int (zI (S2 0 24))) zMO_0 rfl (fun w h => List.mem_cons_of_mem _ (List.mem_append_right _ h)) 24 (by decide) (List.mem_of_getElem? (i := 1) rfl) rfl rfl dX12_emptiesVector_4 ?_
      have hr4 := hI2.s24
      refine z_icmp_ge (tgt := 23) CX dX12_emptiesVector_7 (by decide) (by constructor <;> omega) (by constructor <;> omega) (fun c_7 => ?_) (fun c_7 => ?_)
      ·
        have e2 : zfor (zm_emptiesVector_L2) 0 S ((S 0 24 - 1) + 1 - 0).toNat = S2 := by rw [show ((S 0 24 - 1) + 1 - 0).toNat = (i2 - 0).toNat by omega]; exact hz2
        have hE : zm_emptiesVector S = S2 := by unfold zm_emptiesVector; exact zlet_e e2 rfl
        have hFr : ∀ kk ii : Nat, ¬ kk = 12 → S2 kk ii = S kk ii := fun kk ii hk => (hf2 kk ii (by omega))
        rw [← hQ]
        exact z_vret CX hW (by rw [hE]; exact ⟨rfl, hI2, hFr, trivial⟩) dX12_emptiesVector_23
      ·
        refine lv_aload_n hX0 hB0 dX12_emptiesVector_10 rfl (lv_at hl 1 rfl) ?_
        refine z_get (Cn := RX12) (T := TX12) (N := 37) CX hW (v := .ref (o + 12)) zMO_0 rfl (fun w h => List.mem_cons_of_mem _ (List.mem_append_right _ h)) 25 (by decide) (List.mem_of_getElem? (i := 2) rfl) rfl rfl dX12_emptiesVector_11 ?_
        refine lv_iload_n hX0 hB0 dX12_emptiesVector_14 rfl (lv_at hl 0 rfl) ?_
        refine lv_iconst (v := zI 0) hX0 hB0 dX12_emptiesVector_15 rfl ?_
        obtain ⟨S16, e16⟩ : ∃ q, za S2 12 i2.toNat 0 = q := ⟨_, rfl⟩
        refine z_iast CX hW zMO_12 0 rfl (by refine ⟨?_, ?_, ?_⟩ <;> omega) (g := zMO cI cJ o S16 f) (zMO_w12.trans (by rw [← e16]; rfl)) dX12_emptiesVector_16 (fun H locs hW => ?_)
        have hI16 : mI S16 := e16 ▸ hI2.w12 (by constructor <;> omega)
        have t16_24 : S16 0 24 = S2 0 24 := by rw [← e16]; exact za_ne (by omega)
        refine lv_iinc (v := zI (i2 + 1)) (lv' := [(1, .int (zI (i2 + 1))), (0, .ref o)]) hX0 hB0 dX12_emptiesVector_17 hl (k := 0) rfl (zI_add _ _) (by decide) rfl (fun ls hl => ?_)
        refine lv_goto (tgt := 2) hX0 hB0 dX12_emptiesVector_20 (by decide) ?_
        exact ih2 (i2 + 1) S16 ⟨⟨by omega, by omega⟩, (zfor_s _ _ _ (by omega)).trans ((congrArg (zm_emptiesVector_L2 i2) hz2).trans (by unfold zm_emptiesVector_L2; exact zlet_e e16 rfl)), hI16, fun kk ii hk => ((show S16 kk ii = S2 kk ii from by rw [← e16]; exact za_ne (by omega))).trans (hf2 kk ii (by omega))⟩ (by omega) H locs ls hW (lv_sub hl [0, 1] rfl)
  exact hL2 _ 0 S ⟨⟨by omega, by omega⟩, zfor_0 _ _ _, hI, fun kk ii hk => rfl⟩ (Nat.lt_succ_self _) H locs ls hW (lv_sub hl [0, 1] rfl)
def zm_reduced_L60 (k2 : Int) (S2 : zS2) : Int → zS2 → zS2 := fun i60 s60 => (fun (S60 : zS2) => zlet (za S60 12 i60.toNat (Int.tmod ((S60 12 i60.toNat) + (((S2 0 10) - (S2 12 k2.toNat)) * (S60 10 (((325 * (S2 11 k2.toNat)) + i60).toNat)))) (S60 0 10))) (fun S99 => S99)) s60
def zm_reduced_W2  : Nat → Int → zS2 → (Int × zS2) ⊕ (Int × zS2)
  | 0, k2, S2 => .inr (k2, S2)
  | fu2 + 1, k2, S2 => (if S2 0 24 ≤ k2 then .inr (k2, S2) else (if S2 12 k2.toNat = 0 then zm_reduced_W2 fu2 (k2 + 1) S2 else (if S2 11 k2.toNat = -1 then .inl ((k2, S2)) else zlet (zfor (zm_reduced_L60 k2 S2) k2 S2 ((S2 0 24 - 1) + 1 - k2).toNat) (fun S60 => zm_reduced_W2 fu2 (k2 + 1) S60))))
def zm_reduced (S : zS2)  : Int × zS2 := zsum (zm_reduced_W2 ((327 : Nat)) 0 S) (fun r2 => r2) (fun q2 => (fun (k2 : Int) (S2 : zS2) => (-1, S2)) q2.1 q2.2)
set_option maxRecDepth 100000 in
set_option maxHeartbeats 4000000 in
theorem zk_reduced (l : Launch) {D : va_G} {cI cJ cZ cP cS cM : ClassId} {L : List Nat} {sz : Nat} {f : Nat → va_E} (o : Nat) (S : zS2)  (hI : mI S)  : zMi l yX12_reduced wsX12_reduced 0 0 D (zT cI cJ cZ cP cS cM) L sz (zMO cI cJ o S f) [.ref o] (fun zv gv => zv = (zm_reduced S).1 ∧ gv = zMO cI cJ o (zm_reduced S).2 f ∧ mI (zm_reduced S).2 ∧ (∀ kk ii : Nat, ¬ kk = 12 → (zm_reduced S).2 kk ii = S kk ii) ∧ -1 ≤ zv ∧ zv ≤ 324 ∧ (zv ≠ -1 → zv < S 0 24 ∧ S 11 zv.toNat = -1)) := by
  refine zWalk.met (nL := 5) (ret := (some .int)) (cc := cX12_reduced) (by decide) rfl (Nat.le_of_ble_eq_true rfl) ?_
  intro pg en st mi ag bl mt cd ls CX hW hl
  have CX : zC pg st mi ag mt cd cX12_reduced 5 (some .int) RX12 wsX12_reduced := CX
  generalize hQ : MQ bl _ ag st 0 0 _ = Q
  have hX0 := CX.1
  have hB0 := CX.2.1
  have hl : lv_has ls 5 [(0, .ref o)] := hl
  obtain ⟨H, eH⟩ : ∃ H, H = st.heap := ⟨_, rfl⟩
  obtain ⟨locs, eL⟩ : ∃ L : List Loc, L = [] := ⟨_, rfl⟩
  have hW : zW D (zT cI cJ cZ cP cS cM) L (zQ L sz) st (zMO cI cJ o S f) st.heap H locs := by rw [eH, eL]; exact hW
  suffices hgo : W pg l en ({ frames := 0, cells := 0, slots := 0, locals := 0 } : Room) st mi ag bl mt cd H locs 0 0 Q (F0 mi 0 ls []) by rw [eH, eL] at hgo; exact hgo
  clear eH eL
  have hpb := hI.s10
  refine lv_iconst (v := zI 0) hX0 hB0 dX12_reduced_0 rfl ?_
  refine lv_istore_n (lv' := [(1, .int (zI 0)), (0, .ref o)]) hX0 hB0 dX12_reduced_1 rfl hl (by decide) rfl (fun ls hl => ?_)
  have hXt2 : ∀ (k2 : Int) (S2 : zS2), (zm_reduced_W2 ((327 : Nat)) 0 S = .inr (k2, S2) ∧ mI S2 ∧ (∀ kk ii : Nat, ¬ kk = 12 → S2 kk ii = S kk ii) ∧ 0 ≤ k2 ∧ k2 ≤ 325) → ∀ (H : Heap) (locs : List Loc) (ls : Array Slot), zW D (zT cI cJ cZ cP cS cM) L (zQ L sz) st (zMO cI cJ o S2 f) st.heap H locs → lv_has ls 5 [(1, .int (zI k2)), (0, .ref o)] → W pg l en ({ frames := 0, cells := 0, slots := 0, locals := 0 } : Room) st mi ag bl mt cd H locs 0 0 Q (F0 mi 112 ls []) := by
    intro k2 S2 hinv H locs ls hW hl
    obtain ⟨e2, hI2, hf2, hak2, hbk2⟩ := hinv
    have hp2 := hI2.s10
    have t2_24 : S2 0 24 = S 0 24 := hf2 0 24 (by omega)
    refine lv_iconst (v := zI (-1)) hX0 hB0 dX12_reduced_112 rfl ?_
    have hE : zm_reduced S = (-1, S2) := by unfold zm_reduced; exact zsum_r e2 rfl
    have hFr : ∀ kk ii : Nat, ¬ kk = 12 → S2 kk ii = S kk ii := fun kk ii hk => (hf2 kk ii (by omega))
    rw [← hQ]
    exact z_iret (z := -1) CX hW (by rw [hE]; exact ⟨rfl, rfl, hI2, hFr, (show -1 ≤ (-1 : Int) ∧ (-1 : Int) ≤ 324 ∧ ((-1 : Int) ≠ -1 → (-1 : Int) < S 0 24 ∧ S 11 (-1 : Int).toNat = -1) from by omega)⟩) rfl dX12_reduced_113
  have hL2 : ∀ (fu : Nat) (k2 : Int) (S2 : zS2), (zm_reduced_W2 ((327 : Nat)) 0 S = zm_reduced_W2 fu k2 S2 ∧ mI S2 ∧ (∀ kk ii : Nat, ¬ kk = 12 → S2 kk ii = S kk ii) ∧ 0 ≤ k2 ∧ k2 ≤ 325) → (326 - k2).toNat < fu → ∀ (H : Heap) (locs : List Loc) (ls : Array Slot), zW D (zT cI cJ cZ cP cS cM) L (zQ L sz) st (zMO cI cJ o S2 f) st.heap H locs → lv_has ls 5 [(1, .int (zI k2)), (0, .ref o)] → W pg l en ({ frames := 0, cells := 0, slots := 0, locals := 0 } : Room) st mi ag bl mt cd H locs 0 0 Q (F0 mi 2 ls []) := by
    intro fu
    induction fu with
    | zero => intro k2 S2 _ hfu; exact absurd hfu (Nat.not_lt_zero _)
    | succ fu ih2 =>
      intro k2 S2 hinv hfu2 H locs ls hW hl
      obtain ⟨hz2, hI2, hf2, hak2, hbk2⟩ := hinv
      have hp2 := hI2.s10
      have t2_24 : S2 0 24 = S 0 24 := hf2 0 24 (by omega)
      refine lv_iload_n hX0 hB0 dX12_reduced_2 rfl (lv_at hl 0 rfl) ?_
      refine lv_aload_n hX0 hB0 dX12_reduced_3 rfl (lv_at hl 1 rfl) ?_
      refine z_get (Cn := RX12) (T := TX12) (N := 37) CX hW (v := .int (zI (S2 0 24))) zMO_0 rfl (fun w h => List.mem_cons_of_mem _ (List.mem_append_right _ h)) 24 (by decide) (List.mem_of_getElem? (i := 1) rfl) rfl rfl dX12_reduced_4 ?_
      have hr4 := hI2.s24
      refine z_icmp_ge (tgt := 112) CX dX12_reduced_7 (by decide) (by constructor <;> omega) (by constructor <;> omega) (fun c_7 => ?_) (fun c_7 => ?_)
      ·
        exact hXt2 k2 S2 ⟨hz2.trans (by rw [zm_reduced_W2]; exact zif_t c_7 rfl), hI2, fun kk ii hk => (hf2 kk ii (by omega)), by omega, by omega⟩ H locs ls hW (lv_sub hl [0, 1] rfl)
      ·
        have d_7 : ¬ S2 0 24 ≤ k2 := by omega
        refine lv_aload_n hX0 hB0 dX12_reduced_10 rfl (lv_at hl 1 rfl) ?_
        refine z_get (Cn := RX12) (T := TX12) (N := 37) CX hW (v := .ref (o + 12)) zMO_0 rfl (fun w h => List.mem_cons_of_mem _ (List.mem_append_right _ h)) 25 (by decide) (List.mem_of_getElem? (i := 2) rfl) rfl rfl dX12_reduced_11 ?_
        refine lv_iload_n hX0 hB0 dX12_reduced_14 rfl (lv_at hl 0 rfl) ?_
        refine z_iald (z := S2 12 k2.toNat) CX hW zMO_12 0 rfl (by refine ⟨?_, ?_, ?_⟩ <;> omega) rfl dX12_reduced_15 ?_
        have hr15 := hI2.r12 k2.toNat
        refine z_if_ne (tgt := 22) CX dX12_reduced_16 (by decide) (by constructor <;> omega) (fun c_16 => ?_) (fun c_16 => ?_)
        ·
          refine lv_aload_n hX0 hB0 dX12_reduced_22 rfl (lv_at hl 1 rfl) ?_
          refine z_get (Cn := RX12) (T := TX12) (N := 37) CX hW (v := .ref (o + 11)) zMO_0 rfl (fun w h => List.mem_cons_of_mem _ (List.mem_append_right _ h)) 22 (by decide) (List.mem_of_getElem? (i := 3) rfl) rfl rfl dX12_reduced_23 ?_
          refine lv_iload_n hX0 hB0 dX12_reduced_26 rfl (lv_at hl 0 rfl) ?_
          refine z_iald (z := S2 11 k2.toNat) CX hW zMO_11 0 rfl (by refine ⟨?_, ?_, ?_⟩ <;> omega) rfl dX12_reduced_27 ?_
          have hr27 := hI2.r11 k2.toNat
          refine lv_iconst (v := zI (-1)) hX0 hB0 dX12_reduced_28 rfl ?_
          refine z_icmp_ne (tgt := 34) CX dX12_reduced_29 (by decide) (by constructor <;> omega) (by constructor <;> omega) (fun c_29 => ?_) (fun c_29 => ?_)
          ·
            refine lv_aload_n hX0 hB0 dX12_reduced_34 rfl (lv_at hl 1 rfl) ?_
            refine z_get (Cn := RX12) (T := TX12) (N := 37) CX hW (v := .int (zI (S2 0 10))) zMO_0 rfl (fun w h => List.mem_cons_of_mem _ (List.mem_append_right _ h)) 10 (by decide) (List.mem_of_getElem? (i := 4) rfl) rfl rfl dX12_reduced_35 ?_
            have hr35 := hI2.s10
            refine lv_aload_n hX0 hB0 dX12_reduced_38 rfl (lv_at hl 1 rfl) ?_
            refine z_get (Cn := RX12) (T := TX12) (N := 37) CX hW (v := .ref (o + 12)) zMO_0 rfl (fun w h => List.mem_cons_of_mem _ (List.mem_append_right _ h)) 25 (by decide) (List.mem_of_getElem? (i := 2) rfl) rfl rfl dX12_reduced_39 ?_
            refine lv_iload_n hX0 hB0 dX12_reduced_42 rfl (lv_at hl 0 rfl) ?_
            refine z_iald (z := S2 12 k2.toNat) CX hW zMO_12 0 rfl (by refine ⟨?_, ?_, ?_⟩ <;> omega) rfl dX12_reduced_43 ?_
            have hr43 := hI2.r12 k2.toNat
            refine z_isub (z := (S2 0 10) - (S2 12 k2.toNat)) CX dX12_reduced_44 rfl ?_
            refine lv_istore_n (lv' := [(2, .int (zI ((S2 0 10) - (S2 12 k2.toNat)))), (1, .int (zI k2)), (0, .ref o)]) hX0 hB0 dX12_reduced_45 rfl hl (by decide) rfl (fun ls hl => ?_)
            refine lv_sipush (v := zI 325) hX0 hB0 dX12_reduced_46 (by decide) ?_
            refine lv_aload_n hX0 hB0 dX12_reduced_49 rfl (lv_at hl 2 rfl) ?_
            refine z_get (Cn := RX12) (T := TX12) (N := 37) CX hW (v := .ref (o + 11)) zMO_0 rfl (fun w h => List.mem_cons_of_mem _ (List.mem_append_right _ h)) 22 (by decide) (List.mem_of_getElem? (i := 3) rfl) rfl rfl dX12_reduced_50 ?_
            refine lv_iload_n hX0 hB0 dX12_reduced_53 rfl (lv_at hl 1 rfl) ?_
            refine z_iald (z := S2 11 k2.toNat) CX hW zMO_11 0 rfl (by refine ⟨?_, ?_, ?_⟩ <;> omega) rfl dX12_reduced_54 ?_
            have hr54 := hI2.r11 k2.toNat
            refine z_imul (z := 325 * (S2 11 k2.toNat)) CX dX12_reduced_55 rfl ?_
            refine lv_istore_n (lv' := [(3, .int (zI (325 * (S2 11 k2.toNat)))), (2, .int (zI ((S2 0 10) - (S2 12 k2.toNat)))), (1, .int (zI k2)), (0, .ref o)]) hX0 hB0 dX12_reduced_56 rfl hl (by decide) rfl (fun ls hl => ?_)
            refine lv_iload_n hX0 hB0 dX12_reduced_57 rfl (lv_at hl 2 rfl) ?_
            refine lv_istore (lv' := [(4, .int (zI k2)), (3, .int (zI (325 * (S2 11 k2.toNat)))), (2, .int (zI ((S2 0 10) - (S2 12 k2.toNat)))), (1, .int (zI k2)), (0, .ref o)]) hX0 hB0 dX12_reduced_58 hl (by decide) rfl (fun ls hl => ?_)
            have hL60 : ∀ (fu : Nat) (i60 : Int) (S60 : zS2), ((k2 ≤ i60 ∧ i60 ≤ S2 0 24 - 1 + 1) ∧ zfor (zm_reduced_L60 k2 S2) k2 S2 (i60 - k2).toNat = S60 ∧ mI S60 ∧ (∀ kk ii : Nat, ¬ kk = 12 → S60 kk ii = S2 kk ii)) → ((S2 0 24 - 1) + 1 - i60).toNat < fu → ∀ (H : Heap) (locs : List Loc) (ls : Array Slot), zW D (zT cI cJ cZ cP cS cM) L (zQ L sz) st (zMO cI cJ o S60 f) st.heap H locs → lv_has ls 5 [(4, .int (zI i60)), (3, .int (zI (325 * (S2 11 k2.toNat)))), (2, .int (zI ((S2 0 10) - (S2 12 k2.toNat)))), (1, .int (zI k2)), (0, .ref o)] → W pg l en ({ frames := 0, cells := 0, slots := 0, locals := 0 } : Room) st mi ag bl mt cd H locs 0 0 Q (F0 mi 60 ls []) := by
              intro fu
              induction fu with
              | zero => intro i60 S60 _ hfu; exact absurd hfu (Nat.not_lt_zero _)
              | succ fu ih60 =>
                intro i60 S60 hinv hfu60 H locs ls hW hl
                obtain ⟨⟨hlo60, hhi60⟩, hz60, hI60, hf60⟩ := hinv
                have hp60 := hI60.s10
                have t60_24 : S60 0 24 = S2 0 24 := hf60 0 24 (by omega)
                refine lv_iload hX0 hB0 dX12_reduced_60 (lv_at hl 0 rfl) ?_
                refine lv_aload_n hX0 hB0 dX12_reduced_62 rfl (lv_at hl 4 rfl) ?_
                refine z_get (Cn := RX12) (T := TX12) (N := 37) CX hW (v := .int (zI (S60 0 24))) zMO_0 rfl (fun w h => List.mem_cons_of_mem _ (List.mem_append_right _ h)) 24 (by decide) (List.mem_of_getElem? (i := 1) rfl) rfl rfl dX12_reduced_63 ?_
                have hr63 := hI60.s24
                refine z_icmp_ge (tgt := 106) CX dX12_reduced_66 (by decide) (by constructor <;> omega) (by constructor <;> omega) (fun c_66 => ?_) (fun c_66 => ?_)
                ·
                  have e60 : zfor (zm_reduced_L60 k2 S2) k2 S2 ((S2 0 24 - 1) + 1 - k2).toNat = S60 := by rw [show ((S2 0 24 - 1) + 1 - k2).toNat = (i60 - k2).toNat by omega]; exact hz60
                  refine lv_iinc (v := zI (k2 + 1)) (lv' := [(1, .int (zI (k2 + 1))), (4, .int (zI i60)), (3, .int (zI (325 * (S2 11 k2.toNat)))), (2, .int (zI ((S2 0 10) - (S2 12 k2.toNat)))), (0, .ref o)]) hX0 hB0 dX12_reduced_106 hl (k := 3) rfl (zI_add _ _) (by decide) rfl (fun ls hl => ?_)
                  refine lv_goto (tgt := 2) hX0 hB0 dX12_reduced_109 (by decide) ?_
                  exact ih2 (k2 + 1) S60 ⟨hz2.trans (by rw [zm_reduced_W2]; exact zif_f d_7 (zif_f c_16 (zif_f c_29 (zlet_e e60 rfl)))), hI60, fun kk ii hk => ((hf60 kk ii (by omega))).trans (hf2 kk ii (by omega)), by omega, by omega⟩ (by omega) H locs ls hW (lv_sub hl [0, 4] rfl)
                ·
                  refine lv_aload_n hX0 hB0 dX12_reduced_69 rfl (lv_at hl 4 rfl) ?_
                  refine z_get (Cn := RX12) (T := TX12) (N := 37) CX hW (v := .ref (o + 12)) zMO_0 rfl (fun w h => List.mem_cons_of_mem _ (List.mem_append_right _ h)) 25 (by decide) (List.mem_of_getElem? (i := 2) rfl) rfl rfl dX12_reduced_70 ?_
                  refine lv_iload hX0 hB0 dX12_reduced_73 (lv_at hl 0 rfl) ?_
                  refine lv_aload_n hX0 hB0 dX12_reduced_75 rfl (lv_at hl 4 rfl) ?_
                  refine z_get (Cn := RX12) (T := TX12) (N := 37) CX hW (v := .ref (o + 12)) zMO_0 rfl (fun w h => List.mem_cons_of_mem _ (List.mem_append_right _ h)) 25 (by decide) (List.mem_of_getElem? (i := 2) rfl) rfl rfl dX12_reduced_76 ?_
                  refine lv_iload hX0 hB0 dX12_reduced_79 (lv_at hl 0 rfl) ?_
                  refine z_iald (z := S60 12 i60.toNat) CX hW zMO_12 0 rfl (by refine ⟨?_, ?_, ?_⟩ <;> omega) rfl dX12_reduced_81 ?_
                  have hr81 := hI60.r12 i60.toNat
                  refine lv_iload_n hX0 hB0 dX12_reduced_82 rfl (lv_at hl 2 rfl) ?_
                  refine lv_aload_n hX0 hB0 dX12_reduced_83 rfl (lv_at hl 4 rfl) ?_
                  refine z_get (Cn := RX12) (T := TX12) (N := 37) CX hW (v := .ref (o + 10)) zMO_0 rfl (fun w h => List.mem_cons_of_mem _ (List.mem_append_right _ h)) 21 (by decide) (List.mem_of_getElem? (i := 5) rfl) rfl rfl dX12_reduced_84 ?_
                  refine lv_iload_n hX0 hB0 dX12_reduced_87 rfl (lv_at hl 1 rfl) ?_
                  refine lv_iload hX0 hB0 dX12_reduced_88 (lv_at hl 0 rfl) ?_
                  refine z_iadd (z := (325 * (S2 11 k2.toNat)) + i60) CX dX12_reduced_90 rfl ?_
                  refine z_iald (z := S60 10 (((325 * (S2 11 k2.toNat)) + i60).toNat)) CX hW zMO_10 0 rfl (by refine ⟨?_, ?_, ?_⟩ <;> omega) rfl dX12_reduced_91 ?_
                  have hr91 := hI60.r10 (((325 * (S2 11 k2.toNat)) + i60).toNat)
                  refine z_imul (z := ((S2 0 10) - (S2 12 k2.toNat)) * (S60 10 (((325 * (S2 11 k2.toNat)) + i60).toNat))) CX dX12_reduced_92 rfl ?_
                  have hm92 := zbox_mul (a := (S2 0 10) - (S2 12 k2.toNat)) (b := S60 10 (((325 * (S2 11 k2.toNat)) + i60).toNat)) (A := 61) (B := 30) (by constructor <;> omega) (by constructor <;> omega) (C := 1830) (by decide)
                  refine z_iadd (z := (S60 12 i60.toNat) + (((S2 0 10) - (S2 12 k2.toNat)) * (S60 10 (((325 * (S2 11 k2.toNat)) + i60).toNat)))) CX dX12_reduced_93 rfl ?_
                  refine lv_aload_n hX0 hB0 dX12_reduced_94 rfl (lv_at hl 4 rfl) ?_
                  refine z_get (Cn := RX12) (T := TX12) (N := 37) CX hW (v := .int (zI (S60 0 10))) zMO_0 rfl (fun w h => List.mem_cons_of_mem _ (List.mem_append_right _ h)) 10 (by decide) (List.mem_of_getElem? (i := 4) rfl) rfl rfl dX12_reduced_95 ?_
                  have hr95 := hI60.s10
                  refine z_irem (z := Int.tmod ((S60 12 i60.toNat) + (((S2 0 10) - (S2 12 k2.toNat)) * (S60 10 (((325 * (S2 11 k2.toNat)) + i60).toNat)))) (S60 0 10)) CX dX12_reduced_98 (by constructor <;> omega) (by constructor <;> omega) rfl ?_
                  have ht98 := ztm (n := (S60 12 i60.toNat) + (((S2 0 10) - (S2 12 k2.toNat)) * (S60 10 (((325 * (S2 11 k2.toNat)) + i60).toNat)))) (p := S60 0 10) (by omega)
                  obtain ⟨S99, e99⟩ : ∃ q, za S60 12 i60.toNat (Int.tmod ((S60 12 i60.toNat) + (((S2 0 10) - (S2 12 k2.toNat)) * (S60 10 (((325 * (S2 11 k2.toNat)) + i60).toNat)))) (S60 0 10)) = q := ⟨_, rfl⟩
                  refine z_iast CX hW zMO_12 0 rfl (by refine ⟨?_, ?_, ?_⟩ <;> omega) (g := zMO cI cJ o S99 f) (zMO_w12.trans (by rw [← e99]; rfl)) dX12_reduced_99 (fun H locs hW => ?_)
                  have hI99 : mI S99 := e99 ▸ hI60.w12 (by constructor <;> omega)
                  have t99_24 : S99 0 24 = S60 0 24 := by rw [← e99]; exact za_ne (by omega)
                  refine lv_iinc (v := zI (i60 + 1)) (lv' := [(4, .int (zI (i60 + 1))), (3, .int (zI (325 * (S2 11 k2.toNat)))), (2, .int (zI ((S2 0 10) - (S2 12 k2.toNat)))), (1, .int (zI k2)), (0, .ref o)]) hX0 hB0 dX12_reduced_100 hl (k := 0) rfl (zI_add _ _) (by decide) rfl (fun ls hl => ?_)
                  refine lv_goto (tgt := 60) hX0 hB0 dX12_reduced_103 (by decide) ?_
                  exact ih60 (i60 + 1) S99 ⟨⟨by omega, by omega⟩, (zfor_s _ _ _ (by omega)).trans ((congrArg (zm_reduced_L60 k2 S2 i60) hz60).trans (by unfold zm_reduced_L60; exact zlet_e e99 rfl)), hI99, fun kk ii hk => ((show S99 kk ii = S60 kk ii from by rw [← e99]; exact za_ne (by omega))).trans (hf60 kk ii (by omega))⟩ (by omega) H locs ls hW (lv_sub hl [0, 1, 2, 3, 4] rfl)
            exact hL60 _ k2 S2 ⟨⟨by omega, by omega⟩, zfor_0 _ _ _, hI2, fun kk ii hk => rfl⟩ (Nat.lt_succ_self _) H locs ls hW (lv_sub hl [0, 1, 2, 3, 4] rfl)
          ·
            refine lv_iload_n hX0 hB0 dX12_reduced_32 rfl (lv_at hl 0 rfl) ?_
            have hE : zm_reduced S = (k2, S2) := by unfold zm_reduced; exact zsum_l (hz2.trans (by rw [zm_reduced_W2]; exact zif_f d_7 (zif_f c_16 (zif_t c_29 rfl)))) rfl
            have hFr : ∀ kk ii : Nat, ¬ kk = 12 → S2 kk ii = S kk ii := fun kk ii hk => (hf2 kk ii (by omega))
            have hPo : -1 ≤ k2 ∧ k2 ≤ 324 ∧ (k2 ≠ -1 → k2 < S 0 24 ∧ S 11 k2.toNat = -1) := by
              have hx1 : S2 11 k2.toNat = S 11 k2.toNat := hf2 11 _ (by omega)
              rw [hx1] at c_29
              refine ⟨by omega, by omega, fun _ => ⟨by omega, c_29⟩⟩
            rw [← hQ]
            exact z_iret (z := k2) CX hW (by rw [hE]; exact ⟨rfl, rfl, hI2, hFr, hPo⟩) rfl dX12_reduced_33
        ·
          refine lv_goto (tgt := 106) hX0 hB0 dX12_reduced_19 (by decide) ?_
          refine lv_iinc (v := zI (k2 + 1)) (lv' := [(1, .int (zI (k2 + 1))), (0, .ref o)]) hX0 hB0 dX12_reduced_106 hl (k := 0) rfl (zI_add _ _) (by decide) rfl (fun ls hl => ?_)
          refine lv_goto (tgt := 2) hX0 hB0 dX12_reduced_109 (by decide) ?_
          exact ih2 (k2 + 1) S2 ⟨hz2.trans (by rw [zm_reduced_W2]; exact zif_f d_7 (zif_t c_16 rfl)), hI2, fun kk ii hk => (hf2 kk ii (by omega)), by omega, by omega⟩ (by omega) H locs ls hW (lv_sub hl [0, 1] rfl)
  exact hL2 _ 0 S ⟨rfl, hI, fun kk ii hk => rfl, by omega, by omega⟩ (by omega) H locs ls hW (lv_sub hl [0, 1] rfl)
def zm_piles_L25 (z19 : Int) : Int → zS2 → zS2 := fun i25 s25 => (fun (S25 : zS2) => zlet (za S25 10 (((325 * (S25 0 23)) + i25).toNat) (Int.tmod ((S25 12 i25.toNat) * z19) (S25 0 10))) (fun S60 => S60)) s25
def zm_piles (S : zS2)  : Int × zS2 := zlet (zm_reduced S) (fun q1 => (fun (z1 : Int) (S1 : zS2) => (if z1 = -1 then (0, S1) else zlet (zm_inverse S1 (S1 12 z1.toNat)) (fun z19 => zlet (zfor (zm_piles_L25 z19) 0 S1 ((S1 0 24 - 1) + 1 - 0).toNat) (fun S25 => zlet (za S25 11 z1.toNat (S25 0 23)) (fun S76 => zlet (za S76 0 23 ((S76 0 23) + 1)) (fun S84 => (1, S84))))))) q1.1 q1.2)
set_option maxRecDepth 100000 in
set_option maxHeartbeats 4000000 in
theorem zk_piles (l : Launch) {D : va_G} {cI cJ cZ cP cS cM : ClassId} {L : List Nat} {sz : Nat} {f : Nat → va_E} (o : Nat) (S : zS2)  (hI : mI S)  (hpv : S 0 23 = zcnt (S 11) (S 0 24).toNat) : zMi l yX12_piles wsX12_piles 3 70 D (zT cI cJ cZ cP cS cM) L sz (zMO cI cJ o S f) [.ref o] (fun zv gv => zv = (zm_piles S).1 ∧ gv = zMO cI cJ o (zm_piles S).2 f ∧ mI (zm_piles S).2 ∧ (∀ kk ii : Nat, ¬ (kk = 0 ∧ ii = 23) ∧ ¬ kk = 10 ∧ ¬ kk = 11 ∧ ¬ kk = 12 → (zm_piles S).2 kk ii = S kk ii) ∧ 0 ≤ zv ∧ zv ≤ 1 ∧ ((zm_piles S).2) 0 23 = zcnt (((zm_piles S).2) 11) (((zm_piles S).2) 0 24).toNat) := by
  refine zWalk.met (nL := 4) (ret := (some .boolean)) (cc := cX12_piles) (by decide) rfl (Nat.le_of_ble_eq_true rfl) ?_
  intro pg en st mi ag bl mt cd ls CX hW hl
  have CX : zC pg st mi ag mt cd cX12_piles 4 (some .boolean) RX12 wsX12_piles := CX
  generalize hQ : MQ bl _ ag st 0 0 _ = Q
  have hX0 := CX.1
  have hB0 := CX.2.1
  have hl : lv_has ls 4 [(0, .ref o)] := hl
  obtain ⟨H, eH⟩ : ∃ H, H = st.heap := ⟨_, rfl⟩
  obtain ⟨locs, eL⟩ : ∃ L : List Loc, L = [] := ⟨_, rfl⟩
  have hW : zW D (zT cI cJ cZ cP cS cM) L (zQ L sz) st (zMO cI cJ o S f) st.heap H locs := by rw [eH, eL]; exact hW
  suffices hgo : W pg l en ({ frames := 3, cells := 0, slots := 0, locals := 70 } : Room) st mi ag bl mt cd H locs 0 0 Q (F0 mi 0 ls []) by rw [eH, eL] at hgo; exact hgo
  clear eH eL
  have hpb := hI.s10
  refine lv_aload_n hX0 hB0 dX12_piles_0 rfl (lv_at hl 0 rfl) ?_
  refine z_calli hW (va_runV (C := RX12) (As := []) (rest := []) CX.fix (zk_reduced l o S  hI ) (cwV 0 CX.fix.2.2.2.2 gX12_piles_X12_reduced rfl rfl rfl (by decide +kernel) ⟨Nat.le_of_ble_eq_true rfl, Nat.le_of_ble_eq_true rfl⟩) (z_preV CX hW (r := (RX12, TX12, 37)) zMO_0 rfl) rfl rfl hl.1 rfl (lv_room (Nat.le_of_ble_eq_true rfl)) dX12_piles_1 ⟨Nat.zero_le _, Nat.zero_le _⟩) (fun z1 gn H locs hok hW => ?_)
  obtain ⟨hz1, hg, hI1, hf1, hq1⟩ := hok
  obtain ⟨S1, hS1⟩ : ∃ q, q = (zm_reduced S).2 := ⟨_, rfl⟩
  rw [← hS1] at hg hI1 hf1
  have t1_10 : S1 0 10 = S 0 10 := hf1 0 10 (by omega)
  have t1_23 : S1 0 23 = S 0 23 := hf1 0 23 (by omega)
  have t1_24 : S1 0 24 = S 0 24 := hf1 0 24 (by omega)
  skip
  try rw [← hS1] at hq1
  rw [hg] at hW
  clear hg
  have e1 : zm_reduced S = (z1, S1) := Prod.ext hz1.symm hS1.symm
  clear hz1 hS1
  refine lv_istore_n (lv' := [(1, .int (zI z1)), (0, .ref o)]) hX0 hB0 dX12_piles_4 rfl hl (by decide) rfl (fun ls hl => ?_)
  refine lv_iload_n hX0 hB0 dX12_piles_5 rfl (lv_at hl 0 rfl) ?_
  refine lv_iconst (v := zI (-1)) hX0 hB0 dX12_piles_6 rfl ?_
  refine z_icmp_ne (tgt := 12) CX dX12_piles_7 (by decide) (by constructor <;> omega) (by constructor <;> omega) (fun c_7 => ?_) (fun c_7 => ?_)
  ·
    have hb24 := hI.s24
    obtain ⟨hka, hkb⟩ := hq1.2.2 c_7
    have hlt := zcnt_lt hkb (S 0 24).toNat (by omega)
    have hle := zcnt_le (S 11) (S 0 24).toNat
    refine lv_aload_n hX0 hB0 dX12_piles_12 rfl (lv_at hl 1 rfl) ?_
    refine lv_aload_n hX0 hB0 dX12_piles_13 rfl (lv_at hl 1 rfl) ?_
    refine z_get (Cn := RX12) (T := TX12) (N := 37) CX hW (v := .ref (o + 12)) zMO_0 rfl (fun w h => List.mem_cons_of_mem _ (List.mem_append_right _ h)) 25 (by decide) (List.mem_of_getElem? (i := 1) rfl) rfl rfl dX12_piles_14 ?_
    refine lv_iload_n hX0 hB0 dX12_piles_17 rfl (lv_at hl 0 rfl) ?_
    refine z_iald (z := S1 12 z1.toNat) CX hW zMO_12 0 rfl (by refine ⟨?_, ?_, ?_⟩ <;> omega) rfl dX12_piles_18 ?_
    have hr18 := hI1.r12 z1.toNat
    refine z_calli hW (va_runV (C := RX12) (As := [.int (zI (S1 12 z1.toNat))]) (rest := []) CX.fix (zk_inverse l o S1 (S1 12 z1.toNat) hI1 (by constructor <;> omega)) (cwV 1 CX.fix.2.2.2.2 gX12_piles_X12_inverse rfl rfl rfl (by decide +kernel) ⟨Nat.le_of_ble_eq_true rfl, Nat.le_of_ble_eq_true rfl⟩) (z_preV CX hW (r := (RX12, TX12, 37)) zMO_0 rfl) rfl rfl hl.1 rfl (lv_room (Nat.le_of_ble_eq_true rfl)) dX12_piles_19 ⟨Nat.zero_le _, Nat.zero_le _⟩) (fun z19 gn H locs hok hW => ?_)
    obtain ⟨hz19, hg, hq19⟩ := hok
    rw [hg] at hW
    clear hg
    have e19 : zm_inverse S1 (S1 12 z1.toNat) = z19 := hz19.symm
    clear hz19
    refine lv_istore_n (lv' := [(2, .int (zI z19)), (1, .int (zI z1)), (0, .ref o)]) hX0 hB0 dX12_piles_22 rfl hl (by decide) rfl (fun ls hl => ?_)
    refine lv_iconst (v := zI 0) hX0 hB0 dX12_piles_23 rfl ?_
    refine lv_istore_n (lv' := [(3, .int (zI 0)), (2, .int (zI z19)), (1, .int (zI z1)), (0, .ref o)]) hX0 hB0 dX12_piles_24 rfl hl (by decide) rfl (fun ls hl => ?_)
    have hL25 : ∀ (fu : Nat) (i25 : Int) (S25 : zS2), ((0 ≤ i25 ∧ i25 ≤ S1 0 24 - 1 + 1) ∧ zfor (zm_piles_L25 z19) 0 S1 (i25 - 0).toNat = S25 ∧ mI S25 ∧ (∀ kk ii : Nat, ¬ kk = 10 → S25 kk ii = S1 kk ii)) → ((S1 0 24 - 1) + 1 - i25).toNat < fu → ∀ (H : Heap) (locs : List Loc) (ls : Array Slot), zW D (zT cI cJ cZ cP cS cM) L (zQ L sz) st (zMO cI cJ o S25 f) st.heap H locs → lv_has ls 4 [(3, .int (zI i25)), (2, .int (zI z19)), (1, .int (zI z1)), (0, .ref o)] → W pg l en ({ frames := 3, cells := 0, slots := 0, locals := 70 } : Room) st mi ag bl mt cd H locs 0 0 Q (F0 mi 25 ls []) := by
      intro fu
      induction fu with
      | zero => intro i25 S25 _ hfu; exact absurd hfu (Nat.not_lt_zero _)
      | succ fu ih25 =>
        intro i25 S25 hinv hfu25 H locs ls hW hl
        obtain ⟨⟨hlo25, hhi25⟩, hz25, hI25, hf25⟩ := hinv
        have hp25 := hI25.s10
        have t25_10 : S25 0 10 = S1 0 10 := hf25 0 10 (by omega)
        have t25_23 : S25 0 23 = S1 0 23 := hf25 0 23 (by omega)
        have t25_24 : S25 0 24 = S1 0 24 := hf25 0 24 (by omega)
        refine lv_iload_n hX0 hB0 dX12_piles_25 rfl (lv_at hl 0 rfl) ?_
        refine lv_aload_n hX0 hB0 dX12_piles_26 rfl (lv_at hl 3 rfl) ?_
        refine z_get (Cn := RX12) (T := TX12) (N := 37) CX hW (v := .int (zI (S25 0 24))) zMO_0 rfl (fun w h => List.mem_cons_of_mem _ (List.mem_append_right _ h)) 24 (by decide) (List.mem_of_getElem? (i := 2) rfl) rfl rfl dX12_piles_27 ?_
        have hr27 := hI25.s24
        refine z_icmp_ge (tgt := 67) CX dX12_piles_30 (by decide) (by constructor <;> omega) (by constructor <;> omega) (fun c_30 => ?_) (fun c_30 => ?_)
        ·
          have e25 : zfor (zm_piles_L25 z19) 0 S1 ((S1 0 24 - 1) + 1 - 0).toNat = S25 := by rw [show ((S1 0 24 - 1) + 1 - 0).toNat = (i25 - 0).toNat by omega]; exact hz25
          refine lv_aload_n hX0 hB0 dX12_piles_67 rfl (lv_at hl 3 rfl) ?_
          refine z_get (Cn := RX12) (T := TX12) (N := 37) CX hW (v := .ref (o + 11)) zMO_0 rfl (fun w h => List.mem_cons_of_mem _ (List.mem_append_right _ h)) 22 (by decide) (List.mem_of_getElem? (i := 6) rfl) rfl rfl dX12_piles_68 ?_
          refine lv_iload_n hX0 hB0 dX12_piles_71 rfl (lv_at hl 2 rfl) ?_
          refine lv_aload_n hX0 hB0 dX12_piles_72 rfl (lv_at hl 3 rfl) ?_
          refine z_get (Cn := RX12) (T := TX12) (N := 37) CX hW (v := .int (zI (S25 0 23))) zMO_0 rfl (fun w h => List.mem_cons_of_mem _ (List.mem_append_right _ h)) 23 (by decide) (List.mem_of_getElem? (i := 4) rfl) rfl rfl dX12_piles_73 ?_
          have hr73 := hI25.s23
          obtain ⟨S76, e76⟩ : ∃ q, za S25 11 z1.toNat (S25 0 23) = q := ⟨_, rfl⟩
          refine z_iast CX hW zMO_11 0 rfl (by refine ⟨?_, ?_, ?_⟩ <;> omega) (g := zMO cI cJ o S76 f) (zMO_w11.trans (by rw [← e76]; rfl)) dX12_piles_76 (fun H locs hW => ?_)
          have hI76 : mI S76 := e76 ▸ hI25.w11 (by constructor <;> omega)
          have t76_10 : S76 0 10 = S25 0 10 := by rw [← e76]; exact za_ne (by omega)
          have t76_23 : S76 0 23 = S25 0 23 := by rw [← e76]; exact za_ne (by omega)
          have t76_24 : S76 0 24 = S25 0 24 := by rw [← e76]; exact za_ne (by omega)
          refine lv_aload_n hX0 hB0 dX12_piles_77 rfl (lv_at hl 3 rfl) ?_
          refine lv_dup hX0 hB0 dX12_piles_78 rfl ?_
          refine z_get (Cn := RX12) (T := TX12) (N := 37) CX hW (v := .int (zI (S76 0 23))) zMO_0 rfl (fun w h => List.mem_cons_of_mem _ (List.mem_append_right _ h)) 23 (by decide) (List.mem_of_getElem? (i := 4) rfl) rfl rfl dX12_piles_79 ?_
          have hr79 := hI76.s23
          refine lv_iconst (v := zI 1) hX0 hB0 dX12_piles_82 rfl ?_
          refine z_iadd (z := (S76 0 23) + 1) CX dX12_piles_83 rfl ?_
          obtain ⟨S84, e84⟩ : ∃ q, za S76 0 23 ((S76 0 23) + 1) = q := ⟨_, rfl⟩
          refine z_put (Cn := RX12) (T := TX12) (N := 37) CX hW (v := .int (zI ((S76 0 23) + 1))) zMO_0 rfl (fun w h => List.mem_cons_of_mem _ (List.mem_append_right _ h)) tyX12 tyX12_ok nmX12 23 (by decide) (List.mem_of_getElem? (i := 4) rfl) rfl rfl rfl rfl (Nat.le_of_ble_eq_true rfl) (g := zMO cI cJ o S84 f) (zMO_s23.trans (by rw [e84])) dX12_piles_84 (fun H locs hW => ?_)
          have hI84 : mI S84 := e84 ▸ hI76.v23 (by constructor <;> omega)
          have t84_10 : S84 0 10 = S76 0 10 := by rw [← e84]; exact za_ne (by omega)
          have t84_23 : S84 0 23 = (S76 0 23) + 1 := by rw [← e84]; exact za_same
          have t84_24 : S84 0 24 = S76 0 24 := by rw [← e84]; exact za_ne (by omega)
          have hx10 : S76 11 z1.toNat = S25 0 23 := by rw [← e76]; exact za_same
          have hx11 : S84 11 z1.toNat = S25 0 23 := (show S84 11 z1.toNat = S76 11 z1.toNat from by rw [← e84]; exact za_ne (by omega)).trans hx10
          have hx12 : ∀ q : Nat, q ≠ z1.toNat → S84 11 q = S 11 q := fun q hq => (show S84 11 q = S76 11 q from by rw [← e84]; exact za_ne (by omega)).trans ((show S76 11 q = S25 11 q from by rw [← e76]; exact za_ne (fun h => hq h.2)).trans ((hf25 11 q (by omega)).trans (hf1 11 q (by omega))))
          refine lv_iconst (v := zI 1) hX0 hB0 dX12_piles_87 rfl ?_
          have hE : zm_piles S = (1, S84) := by unfold zm_piles; exact zlet_e e1 (zif_f c_7 (zlet_e e19 (zlet_e e25 (zlet_e e76 (zlet_e e84 rfl)))))
          have hFr : ∀ kk ii : Nat, ¬ (kk = 0 ∧ ii = 23) ∧ ¬ kk = 10 ∧ ¬ kk = 11 ∧ ¬ kk = 12 → S84 kk ii = S kk ii := fun kk ii hk => ((((show S84 kk ii = S76 kk ii from by rw [← e84]; exact za_ne (by omega))).trans (show S76 kk ii = S25 kk ii from by rw [← e76]; exact za_ne (by omega))).trans (hf25 kk ii (by omega))).trans (hf1 kk ii (by omega))
          rw [← hQ]
          exact z_iret (z := 1) CX hW (by rw [hE]; exact ⟨rfl, rfl, hI84, hFr, (show 0 ≤ (1 : Int) ∧ (1 : Int) ≤ 1 ∧ S84 0 23 = zcnt (S84 11) (S84 0 24).toNat from by (refine ⟨by omega, by omega, ?_⟩; have hup := zcnt_up (c := S 11) (d := S84 11) hkb (by rw [hx11]; omega) hx12 (S 0 24).toNat (by omega); rw [t84_24, t76_24, t25_24, t1_24, hup]; omega))⟩) rfl dX12_piles_88
        ·
          refine lv_aload_n hX0 hB0 dX12_piles_33 rfl (lv_at hl 3 rfl) ?_
          refine z_get (Cn := RX12) (T := TX12) (N := 37) CX hW (v := .ref (o + 10)) zMO_0 rfl (fun w h => List.mem_cons_of_mem _ (List.mem_append_right _ h)) 21 (by decide) (List.mem_of_getElem? (i := 3) rfl) rfl rfl dX12_piles_34 ?_
          refine lv_sipush (v := zI 325) hX0 hB0 dX12_piles_37 (by decide) ?_
          refine lv_aload_n hX0 hB0 dX12_piles_40 rfl (lv_at hl 3 rfl) ?_
          refine z_get (Cn := RX12) (T := TX12) (N := 37) CX hW (v := .int (zI (S25 0 23))) zMO_0 rfl (fun w h => List.mem_cons_of_mem _ (List.mem_append_right _ h)) 23 (by decide) (List.mem_of_getElem? (i := 4) rfl) rfl rfl dX12_piles_41 ?_
          have hr41 := hI25.s23
          refine z_imul (z := 325 * (S25 0 23)) CX dX12_piles_44 rfl ?_
          refine lv_iload_n hX0 hB0 dX12_piles_45 rfl (lv_at hl 0 rfl) ?_
          refine z_iadd (z := (325 * (S25 0 23)) + i25) CX dX12_piles_46 rfl ?_
          refine lv_aload_n hX0 hB0 dX12_piles_47 rfl (lv_at hl 3 rfl) ?_
          refine z_get (Cn := RX12) (T := TX12) (N := 37) CX hW (v := .ref (o + 12)) zMO_0 rfl (fun w h => List.mem_cons_of_mem _ (List.mem_append_right _ h)) 25 (by decide) (List.mem_of_getElem? (i := 1) rfl) rfl rfl dX12_piles_48 ?_
          refine lv_iload_n hX0 hB0 dX12_piles_51 rfl (lv_at hl 0 rfl) ?_
          refine z_iald (z := S25 12 i25.toNat) CX hW zMO_12 0 rfl (by refine ⟨?_, ?_, ?_⟩ <;> omega) rfl dX12_piles_52 ?_
          have hr52 := hI25.r12 i25.toNat
          refine lv_iload_n hX0 hB0 dX12_piles_53 rfl (lv_at hl 1 rfl) ?_
          refine z_imul (z := (S25 12 i25.toNat) * z19) CX dX12_piles_54 rfl ?_
          have hm54 := zbox_mul (a := S25 12 i25.toNat) (b := z19) (A := 30) (B := 30) (by constructor <;> omega) (by constructor <;> omega) (C := 900) (by decide)
          refine lv_aload_n hX0 hB0 dX12_piles_55 rfl (lv_at hl 3 rfl) ?_
          refine z_get (Cn := RX12) (T := TX12) (N := 37) CX hW (v := .int (zI (S25 0 10))) zMO_0 rfl (fun w h => List.mem_cons_of_mem _ (List.mem_append_right _ h)) 10 (by decide) (List.mem_of_getElem? (i := 5) rfl) rfl rfl dX12_piles_56 ?_
          have hr56 := hI25.s10
          refine z_irem (z := Int.tmod ((S25 12 i25.toNat) * z19) (S25 0 10)) CX dX12_piles_59 (by constructor <;> omega) (by constructor <;> omega) rfl ?_
          have ht59 := ztm (n := (S25 12 i25.toNat) * z19) (p := S25 0 10) (by omega)
          obtain ⟨S60, e60⟩ : ∃ q, za S25 10 (((325 * (S25 0 23)) + i25).toNat) (Int.tmod ((S25 12 i25.toNat) * z19) (S25 0 10)) = q := ⟨_, rfl⟩
          refine z_iast CX hW zMO_10 0 rfl (by refine ⟨?_, ?_, ?_⟩ <;> omega) (g := zMO cI cJ o S60 f) (zMO_w10.trans (by rw [← e60]; rfl)) dX12_piles_60 (fun H locs hW => ?_)
          have hI60 : mI S60 := e60 ▸ hI25.w10 (by constructor <;> omega)
          have t60_10 : S60 0 10 = S25 0 10 := by rw [← e60]; exact za_ne (by omega)
          have t60_23 : S60 0 23 = S25 0 23 := by rw [← e60]; exact za_ne (by omega)
          have t60_24 : S60 0 24 = S25 0 24 := by rw [← e60]; exact za_ne (by omega)
          refine lv_iinc (v := zI (i25 + 1)) (lv' := [(3, .int (zI (i25 + 1))), (2, .int (zI z19)), (1, .int (zI z1)), (0, .ref o)]) hX0 hB0 dX12_piles_61 hl (k := 0) rfl (zI_add _ _) (by decide) rfl (fun ls hl => ?_)
          refine lv_goto (tgt := 25) hX0 hB0 dX12_piles_64 (by decide) ?_
          exact ih25 (i25 + 1) S60 ⟨⟨by omega, by omega⟩, (zfor_s _ _ _ (by omega)).trans ((congrArg (zm_piles_L25 z19 i25) hz25).trans (by unfold zm_piles_L25; exact zlet_e e60 rfl)), hI60, fun kk ii hk => ((show S60 kk ii = S25 kk ii from by rw [← e60]; exact za_ne (by omega))).trans (hf25 kk ii (by omega))⟩ (by omega) H locs ls hW (lv_sub hl [0, 1, 2, 3] rfl)
    exact hL25 _ 0 S1 ⟨⟨by omega, by omega⟩, zfor_0 _ _ _, hI1, fun kk ii hk => rfl⟩ (Nat.lt_succ_self _) H locs ls hW (lv_sub hl [0, 1, 2, 3] rfl)
  ·
    refine lv_iconst (v := zI 0) hX0 hB0 dX12_piles_10 rfl ?_
    have hE : zm_piles S = (0, S1) := by unfold zm_piles; exact zlet_e e1 (zif_t c_7 rfl)
    have hFr : ∀ kk ii : Nat, ¬ (kk = 0 ∧ ii = 23) ∧ ¬ kk = 10 ∧ ¬ kk = 11 ∧ ¬ kk = 12 → S1 kk ii = S kk ii := fun kk ii hk => (hf1 kk ii (by omega))
    rw [← hQ]
    exact z_iret (z := 0) CX hW (by rw [hE]; exact ⟨rfl, rfl, hI1, hFr, (show 0 ≤ (0 : Int) ∧ (0 : Int) ≤ 1 ∧ S1 0 23 = zcnt (S1 11) (S1 0 24).toNat from by (refine ⟨by omega, by omega, ?_⟩; have e11 : S1 11 = S 11 := funext (fun q => hf1 11 q (by omega)); rw [e11, t1_23, t1_24]; exact hpv))⟩) rfl dX12_piles_11
def zm_termAt (i : Int) (j : Int) : Int := (Int.tdiv ((i + j) * ((i + j) + 1)) 2) + j
set_option maxRecDepth 100000 in
set_option maxHeartbeats 4000000 in
theorem zk_termAt (l : Launch) {D : va_G} {cI cJ cZ cP cS cM : ClassId} {L : List Nat} {sz : Nat} {f : Nat → va_E} (i : Int) (j : Int) (hi : 0 ≤ i ∧ i ≤ 24) (hj : 0 ≤ j ∧ j ≤ 24) (hij : i + j ≤ 24) : zMi l yX12_termAt wsX12_termAt 0 0 D (zT cI cJ cZ cP cS cM) L sz f [.int (zI i), .int (zI j)] (fun zv gv => zv = zm_termAt i j ∧ gv = f ∧ zv = zcol i j ∧ 0 ≤ zcol i j ∧ zcol i j ≤ 324 ∧ (i + j ≤ 8 → zcol i j ≤ 44) ∧ (i + j ≤ 4 → zcol i j ≤ 14) ∧ (i + j ≤ 3 → zcol i j ≤ 9)) := by
  refine zWalk.met (nL := 2) (ret := (some .int)) (cc := cX12_termAt) (by decide) rfl (Nat.le_of_ble_eq_true rfl) ?_
  intro pg en st mi ag bl mt cd ls CX hW hl
  have CX : zC pg st mi ag mt cd cX12_termAt 2 (some .int) RX12 wsX12_termAt := CX
  generalize hQ : MQ bl _ ag st 0 0 _ = Q
  have hX0 := CX.1
  have hB0 := CX.2.1
  have hl : lv_has ls 2 [(0, .int (zI i)), (1, .int (zI j))] := hl
  obtain ⟨H, eH⟩ : ∃ H, H = st.heap := ⟨_, rfl⟩
  obtain ⟨locs, eL⟩ : ∃ L : List Loc, L = [] := ⟨_, rfl⟩
  have hW : zW D (zT cI cJ cZ cP cS cM) L (zQ L sz) st f st.heap H locs := by rw [eH, eL]; exact hW
  suffices hgo : W pg l en ({ frames := 0, cells := 0, slots := 0, locals := 0 } : Room) st mi ag bl mt cd H locs 0 0 Q (F0 mi 0 ls []) by rw [eH, eL] at hgo; exact hgo
  clear eH eL
  refine lv_iload_n hX0 hB0 dX12_termAt_0 rfl (lv_at hl 0 rfl) ?_
  refine lv_iload_n hX0 hB0 dX12_termAt_1 rfl (lv_at hl 1 rfl) ?_
  refine z_iadd (z := i + j) CX dX12_termAt_2 rfl ?_
  refine lv_iload_n hX0 hB0 dX12_termAt_3 rfl (lv_at hl 0 rfl) ?_
  refine lv_iload_n hX0 hB0 dX12_termAt_4 rfl (lv_at hl 1 rfl) ?_
  refine z_iadd (z := i + j) CX dX12_termAt_5 rfl ?_
  refine lv_iconst (v := zI 1) hX0 hB0 dX12_termAt_6 rfl ?_
  refine z_iadd (z := (i + j) + 1) CX dX12_termAt_7 rfl ?_
  refine z_imul (z := (i + j) * ((i + j) + 1)) CX dX12_termAt_8 rfl ?_
  have hm8 := zbox_mul0 (a := i + j) (b := (i + j) + 1) (A := 48) (B := 49) (by constructor <;> omega) (by constructor <;> omega) (C := 2352) (by decide)
  refine lv_iconst (v := zI 2) hX0 hB0 dX12_termAt_9 rfl ?_
  refine z_idiv (z := Int.tdiv ((i + j) * ((i + j) + 1)) 2) CX dX12_termAt_10 (by constructor <;> omega) (by constructor <;> omega) rfl ?_
  have ht10 := ztd0 (n := (i + j) * ((i + j) + 1)) (p := 2) (by omega) (by omega)
  refine lv_iload_n hX0 hB0 dX12_termAt_11 rfl (lv_at hl 1 rfl) ?_
  refine z_iadd (z := (Int.tdiv ((i + j) * ((i + j) + 1)) 2) + j) CX dX12_termAt_12 rfl ?_
  have hE : zm_termAt i j = (Int.tdiv ((i + j) * ((i + j) + 1)) 2) + j := by unfold zm_termAt; exact rfl
  have hPo : ((Int.tdiv ((i + j) * ((i + j) + 1)) 2) + j) = zcol i j ∧ 0 ≤ zcol i j ∧ zcol i j ≤ 324 ∧ (i + j ≤ 8 → zcol i j ≤ 44) ∧ (i + j ≤ 4 → zcol i j ≤ 14) ∧ (i + j ≤ 3 → zcol i j ≤ 9) := by
    have hcb := zcol_b (i := i) (j := j) (by omega) (by omega) (by omega)
    have hct := zcol_t (i := i) (j := j) (by omega) (by omega)
    rw [hct]
    exact ⟨rfl, hcb⟩
  rw [← hQ]
  exact z_iret (z := (Int.tdiv ((i + j) * ((i + j) + 1)) 2) + j) CX hW (by rw [hE]; exact ⟨rfl, rfl, hPo⟩) rfl dX12_termAt_13
def zm_longAt (i : Int) (j : Int) : Int := (Int.tdiv ((i + j) * ((i + j) + 1)) 2) + j
set_option maxRecDepth 100000 in
set_option maxHeartbeats 4000000 in
theorem zk_longAt (l : Launch) {D : va_G} {cI cJ cZ cP cS cM : ClassId} {L : List Nat} {sz : Nat} {f : Nat → va_E} (i : Int) (j : Int) (hi : 0 ≤ i ∧ i ≤ 24) (hj : 0 ≤ j ∧ j ≤ 24) (hij : i + j ≤ 24) : zMi l yX12_longAt wsX12_longAt 0 0 D (zT cI cJ cZ cP cS cM) L sz f [.int (zI i), .int (zI j)] (fun zv gv => zv = zm_longAt i j ∧ gv = f ∧ zv = zcol i j ∧ 0 ≤ zcol i j ∧ zcol i j ≤ 324 ∧ (i + j ≤ 8 → zcol i j ≤ 44) ∧ (i + j ≤ 4 → zcol i j ≤ 14) ∧ (i + j ≤ 3 → zcol i j ≤ 9)) := by
  refine zWalk.met (nL := 2) (ret := (some .int)) (cc := cX12_longAt) (by decide) rfl (Nat.le_of_ble_eq_true rfl) ?_
  intro pg en st mi ag bl mt cd ls CX hW hl
  have CX : zC pg st mi ag mt cd cX12_longAt 2 (some .int) RX12 wsX12_longAt := CX
  generalize hQ : MQ bl _ ag st 0 0 _ = Q
  have hX0 := CX.1
  have hB0 := CX.2.1
  have hl : lv_has ls 2 [(0, .int (zI i)), (1, .int (zI j))] := hl
  obtain ⟨H, eH⟩ : ∃ H, H = st.heap := ⟨_, rfl⟩
  obtain ⟨locs, eL⟩ : ∃ L : List Loc, L = [] := ⟨_, rfl⟩
  have hW : zW D (zT cI cJ cZ cP cS cM) L (zQ L sz) st f st.heap H locs := by rw [eH, eL]; exact hW
  suffices hgo : W pg l en ({ frames := 0, cells := 0, slots := 0, locals := 0 } : Room) st mi ag bl mt cd H locs 0 0 Q (F0 mi 0 ls []) by rw [eH, eL] at hgo; exact hgo
  clear eH eL
  refine lv_iload_n hX0 hB0 dX12_longAt_0 rfl (lv_at hl 0 rfl) ?_
  refine lv_iload_n hX0 hB0 dX12_longAt_1 rfl (lv_at hl 1 rfl) ?_
  refine z_iadd (z := i + j) CX dX12_longAt_2 rfl ?_
  refine lv_iload_n hX0 hB0 dX12_longAt_3 rfl (lv_at hl 0 rfl) ?_
  refine lv_iload_n hX0 hB0 dX12_longAt_4 rfl (lv_at hl 1 rfl) ?_
  refine z_iadd (z := i + j) CX dX12_longAt_5 rfl ?_
  refine lv_iconst (v := zI 1) hX0 hB0 dX12_longAt_6 rfl ?_
  refine z_iadd (z := (i + j) + 1) CX dX12_longAt_7 rfl ?_
  refine z_imul (z := (i + j) * ((i + j) + 1)) CX dX12_longAt_8 rfl ?_
  have hm8 := zbox_mul0 (a := i + j) (b := (i + j) + 1) (A := 48) (B := 49) (by constructor <;> omega) (by constructor <;> omega) (C := 2352) (by decide)
  refine lv_iconst (v := zI 2) hX0 hB0 dX12_longAt_9 rfl ?_
  refine z_idiv (z := Int.tdiv ((i + j) * ((i + j) + 1)) 2) CX dX12_longAt_10 (by constructor <;> omega) (by constructor <;> omega) rfl ?_
  have ht10 := ztd0 (n := (i + j) * ((i + j) + 1)) (p := 2) (by omega) (by omega)
  refine lv_iload_n hX0 hB0 dX12_longAt_11 rfl (lv_at hl 1 rfl) ?_
  refine z_iadd (z := (Int.tdiv ((i + j) * ((i + j) + 1)) 2) + j) CX dX12_longAt_12 rfl ?_
  have hE : zm_longAt i j = (Int.tdiv ((i + j) * ((i + j) + 1)) 2) + j := by unfold zm_longAt; exact rfl
  have hPo : ((Int.tdiv ((i + j) * ((i + j) + 1)) 2) + j) = zcol i j ∧ 0 ≤ zcol i j ∧ zcol i j ≤ 324 ∧ (i + j ≤ 8 → zcol i j ≤ 44) ∧ (i + j ≤ 4 → zcol i j ≤ 14) ∧ (i + j ≤ 3 → zcol i j ≤ 9) := by
    have hcb := zcol_b (i := i) (j := j) (by omega) (by omega) (by omega)
    have hct := zcol_t (i := i) (j := j) (by omega) (by omega)
    rw [hct]
    exact ⟨rfl, hcb⟩
  rw [← hQ]
  exact z_iret (z := (Int.tdiv ((i + j) * ((i + j) + 1)) 2) + j) CX hW (by rw [hE]; exact ⟨rfl, rfl, hPo⟩) rfl dX12_longAt_13
def zm_manyTerms (dg : Int) : Int := Int.tdiv ((dg + 1) * (dg + 2)) 2
set_option maxRecDepth 100000 in
set_option maxHeartbeats 4000000 in
theorem zk_manyTerms (l : Launch) {D : va_G} {cI cJ cZ cP cS cM : ClassId} {L : List Nat} {sz : Nat} {f : Nat → va_E} (dg : Int) (hdg : 0 ≤ dg ∧ dg ≤ 24) : zMi l yX12_manyTerms wsX12_manyTerms 0 0 D (zT cI cJ cZ cP cS cM) L sz f [.int (zI dg)] (fun zv gv => zv = zm_manyTerms dg ∧ gv = f ∧ zv = zmt dg ∧ 0 ≤ zmt dg ∧ zmt dg ≤ 325 ∧ (dg ≤ 3 → zmt dg ≤ 10) ∧ (dg ≤ 4 → zmt dg ≤ 15)) := by
  refine zWalk.met (nL := 1) (ret := (some .int)) (cc := cX12_manyTerms) (by decide) rfl (Nat.le_of_ble_eq_true rfl) ?_
  intro pg en st mi ag bl mt cd ls CX hW hl
  have CX : zC pg st mi ag mt cd cX12_manyTerms 1 (some .int) RX12 wsX12_manyTerms := CX
  generalize hQ : MQ bl _ ag st 0 0 _ = Q
  have hX0 := CX.1
  have hB0 := CX.2.1
  have hl : lv_has ls 1 [(0, .int (zI dg))] := hl
  obtain ⟨H, eH⟩ : ∃ H, H = st.heap := ⟨_, rfl⟩
  obtain ⟨locs, eL⟩ : ∃ L : List Loc, L = [] := ⟨_, rfl⟩
  have hW : zW D (zT cI cJ cZ cP cS cM) L (zQ L sz) st f st.heap H locs := by rw [eH, eL]; exact hW
  suffices hgo : W pg l en ({ frames := 0, cells := 0, slots := 0, locals := 0 } : Room) st mi ag bl mt cd H locs 0 0 Q (F0 mi 0 ls []) by rw [eH, eL] at hgo; exact hgo
  clear eH eL
  refine lv_iload_n hX0 hB0 dX12_manyTerms_0 rfl (lv_at hl 0 rfl) ?_
  refine lv_iconst (v := zI 1) hX0 hB0 dX12_manyTerms_1 rfl ?_
  refine z_iadd (z := dg + 1) CX dX12_manyTerms_2 rfl ?_
  refine lv_iload_n hX0 hB0 dX12_manyTerms_3 rfl (lv_at hl 0 rfl) ?_
  refine lv_iconst (v := zI 2) hX0 hB0 dX12_manyTerms_4 rfl ?_
  refine z_iadd (z := dg + 2) CX dX12_manyTerms_5 rfl ?_
  refine z_imul (z := (dg + 1) * (dg + 2)) CX dX12_manyTerms_6 rfl ?_
  have hm6 := zbox_mul0 (a := dg + 1) (b := dg + 2) (A := 25) (B := 26) (by constructor <;> omega) (by constructor <;> omega) (C := 650) (by decide)
  refine lv_iconst (v := zI 2) hX0 hB0 dX12_manyTerms_7 rfl ?_
  refine z_idiv (z := Int.tdiv ((dg + 1) * (dg + 2)) 2) CX dX12_manyTerms_8 (by constructor <;> omega) (by constructor <;> omega) rfl ?_
  have ht8 := ztd0 (n := (dg + 1) * (dg + 2)) (p := 2) (by omega) (by omega)
  have hE : zm_manyTerms dg = Int.tdiv ((dg + 1) * (dg + 2)) 2 := by unfold zm_manyTerms; exact rfl
  have hPo : (Int.tdiv ((dg + 1) * (dg + 2)) 2) = zmt dg ∧ 0 ≤ zmt dg ∧ zmt dg ≤ 325 ∧ (dg ≤ 3 → zmt dg ≤ 10) ∧ (dg ≤ 4 → zmt dg ≤ 15) := by
    have hcb := zmt_rng (d := dg) (by omega)
    have hct := zmt_t (d := dg) (by omega)
    rw [hct]
    exact ⟨rfl, hcb⟩
  rw [← hQ]
  exact z_iret (z := Int.tdiv ((dg + 1) * (dg + 2)) 2) CX hW (by rw [hE]; exact ⟨rfl, rfl, hPo⟩) rfl dX12_manyTerms_9
def zm_swapsRows_L3 (a : Int) (b : Int) : Int → zS2 → zS2 := fun i3 s3 => (fun (S3 : zS2) => zlet (za S3 14 (((30 * a) + i3).toNat) (S3 14 (((30 * b) + i3).toNat))) (fun S46 => zlet (za S46 14 (((30 * b) + i3).toNat) (S3 14 (((30 * a) + i3).toNat))) (fun S60 => S60))) s3
def zm_swapsRows (S : zS2) (a : Int) (b : Int) (many : Int) : zS2 := zlet (zfor (zm_swapsRows_L3 a b) 0 S ((many - 1) + 1 - 0).toNat) (fun S3 => S3)
set_option maxRecDepth 100000 in
set_option maxHeartbeats 4000000 in
theorem zk_swapsRows (l : Launch) {D : va_G} {cI cJ cZ cP cS cM : ClassId} {L : List Nat} {sz : Nat} {f : Nat → va_E} (o : Nat) (S : zS2) (a : Int) (b : Int) (many : Int) (hI : mI S) (ha : 0 ≤ a ∧ a ≤ 44) (hb : 0 ≤ b ∧ b ≤ 44) (hmany : 0 ≤ many ∧ many ≤ 30) : zMv l yX12_swapsRows wsX12_swapsRows 0 0 D (zT cI cJ cZ cP cS cM) L sz (zMO cI cJ o S f) [.ref o, .int (zI a), .int (zI b), .int (zI many)] (fun gv => gv = zMO cI cJ o (zm_swapsRows S a b many) f ∧ mI (zm_swapsRows S a b many) ∧ (∀ kk ii : Nat, ¬ kk = 14 → (zm_swapsRows S a b many) kk ii = S kk ii) ∧ True) := by
  refine zWalk.met (nL := 6) (ret := none) (cc := cX12_swapsRows) (by decide) rfl (Nat.le_of_ble_eq_true rfl) ?_
  intro pg en st mi ag bl mt cd ls CX hW hl
  have CX : zC pg st mi ag mt cd cX12_swapsRows 6 none RX12 wsX12_swapsRows := CX
  generalize hQ : MQ bl _ ag st 0 0 _ = Q
  have hX0 := CX.1
  have hB0 := CX.2.1
  have hl : lv_has ls 6 [(0, .ref o), (1, .int (zI a)), (2, .int (zI b)), (3, .int (zI many))] := hl
  obtain ⟨H, eH⟩ : ∃ H, H = st.heap := ⟨_, rfl⟩
  obtain ⟨locs, eL⟩ : ∃ L : List Loc, L = [] := ⟨_, rfl⟩
  have hW : zW D (zT cI cJ cZ cP cS cM) L (zQ L sz) st (zMO cI cJ o S f) st.heap H locs := by rw [eH, eL]; exact hW
  suffices hgo : W pg l en ({ frames := 0, cells := 0, slots := 0, locals := 0 } : Room) st mi ag bl mt cd H locs 0 0 Q (F0 mi 0 ls []) by rw [eH, eL] at hgo; exact hgo
  clear eH eL
  have hpb := hI.s10
  refine lv_iconst (v := zI 0) hX0 hB0 dX12_swapsRows_0 rfl ?_
  refine lv_istore (lv' := [(4, .int (zI 0)), (0, .ref o), (1, .int (zI a)), (2, .int (zI b)), (3, .int (zI many))]) hX0 hB0 dX12_swapsRows_1 hl (by decide) rfl (fun ls hl => ?_)
  have hL3 : ∀ (fu : Nat) (i3 : Int) (S3 : zS2), ((0 ≤ i3 ∧ i3 ≤ many - 1 + 1) ∧ zfor (zm_swapsRows_L3 a b) 0 S (i3 - 0).toNat = S3 ∧ mI S3 ∧ (∀ kk ii : Nat, ¬ kk = 14 → S3 kk ii = S kk ii)) → ((many - 1) + 1 - i3).toNat < fu → ∀ (H : Heap) (locs : List Loc) (ls : Array Slot), zW D (zT cI cJ cZ cP cS cM) L (zQ L sz) st (zMO cI cJ o S3 f) st.heap H locs → lv_has ls 6 [(4, .int (zI i3)), (0, .ref o), (1, .int (zI a)), (2, .int (zI b)), (3, .int (zI many))] → W pg l en ({ frames := 0, cells := 0, slots := 0, locals := 0 } : Room) st mi ag bl mt cd H locs 0 0 Q (F0 mi 3 ls []) := by
    intro fu
    induction fu with
    | zero => intro i3 S3 _ hfu; exact absurd hfu (Nat.not_lt_zero _)
    | succ fu ih3 =>
      intro i3 S3 hinv hfu3 H locs ls hW hl
      obtain ⟨⟨hlo3, hhi3⟩, hz3, hI3, hf3⟩ := hinv
      have hp3 := hI3.s10
      refine lv_iload hX0 hB0 dX12_swapsRows_3 (lv_at hl 0 rfl) ?_
      refine lv_iload_n hX0 hB0 dX12_swapsRows_5 rfl (lv_at hl 4 rfl) ?_
      refine z_icmp_ge (tgt := 67) CX dX12_swapsRows_6 (by decide) (by constructor <;> omega) (by constructor <;> omega) (fun c_6 => ?_) (fun c_6 => ?_)
      ·
        have e3 : zfor (zm_swapsRows_L3 a b) 0 S ((many - 1) + 1 - 0).toNat = S3 := by rw [show ((many - 1) + 1 - 0).toNat = (i3 - 0).toNat by omega]; exact hz3
        have hE : zm_swapsRows S a b many = S3 := by unfold zm_swapsRows; exact zlet_e e3 rfl
        have hFr : ∀ kk ii : Nat, ¬ kk = 14 → S3 kk ii = S kk ii := fun kk ii hk => (hf3 kk ii (by omega))
        rw [← hQ]
        exact z_vret CX hW (by rw [hE]; exact ⟨rfl, hI3, hFr, trivial⟩) dX12_swapsRows_67
      ·
        refine lv_aload_n hX0 hB0 dX12_swapsRows_9 rfl (lv_at hl 1 rfl) ?_
        refine z_get (Cn := RX12) (T := TX12) (N := 37) CX hW (v := .ref (o + 14)) zMO_0 rfl (fun w h => List.mem_cons_of_mem _ (List.mem_append_right _ h)) 28 (by decide) (List.mem_of_getElem? (i := 1) rfl) rfl rfl dX12_swapsRows_10 ?_
        refine lv_bipush (v := zI 30) hX0 hB0 dX12_swapsRows_13 (by decide) ?_
        refine lv_iload_n hX0 hB0 dX12_swapsRows_15 rfl (lv_at hl 2 rfl) ?_
        refine z_imul (z := 30 * a) CX dX12_swapsRows_16 rfl ?_
        refine lv_iload hX0 hB0 dX12_swapsRows_17 (lv_at hl 0 rfl) ?_
        refine z_iadd (z := (30 * a) + i3) CX dX12_swapsRows_19 rfl ?_
        refine z_iald (z := S3 14 (((30 * a) + i3).toNat)) CX hW zMO_14 0 rfl (by refine ⟨?_, ?_, ?_⟩ <;> omega) rfl dX12_swapsRows_20 ?_
        have hr20 := hI3.r14 (((30 * a) + i3).toNat)
        refine lv_istore (lv' := [(5, .int (zI (S3 14 (((30 * a) + i3).toNat)))), (4, .int (zI i3)), (0, .ref o), (1, .int (zI a)), (2, .int (zI b)), (3, .int (zI many))]) hX0 hB0 dX12_swapsRows_21 hl (by decide) rfl (fun ls hl => ?_)
        refine lv_aload_n hX0 hB0 dX12_swapsRows_23 rfl (lv_at hl 2 rfl) ?_
        refine z_get (Cn := RX12) (T := TX12) (N := 37) CX hW (v := .ref (o + 14)) zMO_0 rfl (fun w h => List.mem_cons_of_mem _ (List.mem_append_right _ h)) 28 (by decide) (List.mem_of_getElem? (i := 1) rfl) rfl rfl dX12_swapsRows_24 ?_
        refine lv_bipush (v := zI 30) hX0 hB0 dX12_swapsRows_27 (by decide) ?_
        refine lv_iload_n hX0 hB0 dX12_swapsRows_29 rfl (lv_at hl 3 rfl) ?_
        refine z_imul (z := 30 * a) CX dX12_swapsRows_30 rfl ?_
        refine lv_iload hX0 hB0 dX12_swapsRows_31 (lv_at hl 1 rfl) ?_
        refine z_iadd (z := (30 * a) + i3) CX dX12_swapsRows_33 rfl ?_
        refine lv_aload_n hX0 hB0 dX12_swapsRows_34 rfl (lv_at hl 2 rfl) ?_
        refine z_get (Cn := RX12) (T := TX12) (N := 37) CX hW (v := .ref (o + 14)) zMO_0 rfl (fun w h => List.mem_cons_of_mem _ (List.mem_append_right _ h)) 28 (by decide) (List.mem_of_getElem? (i := 1) rfl) rfl rfl dX12_swapsRows_35 ?_
        refine lv_bipush (v := zI 30) hX0 hB0 dX12_swapsRows_38 (by decide) ?_
        refine lv_iload_n hX0 hB0 dX12_swapsRows_40 rfl (lv_at hl 4 rfl) ?_
        refine z_imul (z := 30 * b) CX dX12_swapsRows_41 rfl ?_
        refine lv_iload hX0 hB0 dX12_swapsRows_42 (lv_at hl 1 rfl) ?_
        refine z_iadd (z := (30 * b) + i3) CX dX12_swapsRows_44 rfl ?_
        refine z_iald (z := S3 14 (((30 * b) + i3).toNat)) CX hW zMO_14 0 rfl (by refine ⟨?_, ?_, ?_⟩ <;> omega) rfl dX12_swapsRows_45 ?_
        have hr45 := hI3.r14 (((30 * b) + i3).toNat)
        obtain ⟨S46, e46⟩ : ∃ q, za S3 14 (((30 * a) + i3).toNat) (S3 14 (((30 * b) + i3).toNat)) = q := ⟨_, rfl⟩
        refine z_iast CX hW zMO_14 0 rfl (by refine ⟨?_, ?_, ?_⟩ <;> omega) (g := zMO cI cJ o S46 f) (zMO_w14.trans (by rw [← e46]; rfl)) dX12_swapsRows_46 (fun H locs hW => ?_)
        have hI46 : mI S46 := e46 ▸ hI3.w14 (by constructor <;> omega)
        refine lv_aload_n hX0 hB0 dX12_swapsRows_47 rfl (lv_at hl 2 rfl) ?_
        refine z_get (Cn := RX12) (T := TX12) (N := 37) CX hW (v := .ref (o + 14)) zMO_0 rfl (fun w h => List.mem_cons_of_mem _ (List.mem_append_right _ h)) 28 (by decide) (List.mem_of_getElem? (i := 1) rfl) rfl rfl dX12_swapsRows_48 ?_
        refine lv_bipush (v := zI 30) hX0 hB0 dX12_swapsRows_51 (by decide) ?_
        refine lv_iload_n hX0 hB0 dX12_swapsRows_53 rfl (lv_at hl 4 rfl) ?_
        refine z_imul (z := 30 * b) CX dX12_swapsRows_54 rfl ?_
        refine lv_iload hX0 hB0 dX12_swapsRows_55 (lv_at hl 1 rfl) ?_
        refine z_iadd (z := (30 * b) + i3) CX dX12_swapsRows_57 rfl ?_
        refine lv_iload hX0 hB0 dX12_swapsRows_58 (lv_at hl 0 rfl) ?_
        obtain ⟨S60, e60⟩ : ∃ q, za S46 14 (((30 * b) + i3).toNat) (S3 14 (((30 * a) + i3).toNat)) = q := ⟨_, rfl⟩
        refine z_iast CX hW zMO_14 0 rfl (by refine ⟨?_, ?_, ?_⟩ <;> omega) (g := zMO cI cJ o S60 f) (zMO_w14.trans (by rw [← e60]; rfl)) dX12_swapsRows_60 (fun H locs hW => ?_)
        have hI60 : mI S60 := e60 ▸ hI46.w14 (by constructor <;> omega)
        refine lv_iinc (v := zI (i3 + 1)) (lv' := [(4, .int (zI (i3 + 1))), (5, .int (zI (S3 14 (((30 * a) + i3).toNat)))), (0, .ref o), (1, .int (zI a)), (2, .int (zI b)), (3, .int (zI many))]) hX0 hB0 dX12_swapsRows_61 hl (k := 1) rfl (zI_add _ _) (by decide) rfl (fun ls hl => ?_)
        refine lv_goto (tgt := 3) hX0 hB0 dX12_swapsRows_64 (by decide) ?_
        exact ih3 (i3 + 1) S60 ⟨⟨by omega, by omega⟩, (zfor_s _ _ _ (by omega)).trans ((congrArg (zm_swapsRows_L3 a b i3) hz3).trans (by unfold zm_swapsRows_L3; exact zlet_e e46 (zlet_e e60 rfl))), hI60, fun kk ii hk => (((show S60 kk ii = S46 kk ii from by rw [← e60]; exact za_ne (by omega))).trans (show S46 kk ii = S3 kk ii from by rw [← e46]; exact za_ne (by omega))).trans (hf3 kk ii (by omega))⟩ (by omega) H locs ls hW (lv_sub hl [0, 2, 3, 4, 5] rfl)
  exact hL3 _ 0 S ⟨⟨by omega, by omega⟩, zfor_0 _ _ _, hI, fun kk ii hk => rfl⟩ (Nat.lt_succ_self _) H locs ls hW (lv_sub hl [0, 1, 2, 3, 4] rfl)
def zm_solves_W22 (eqs : Int) (i5 : Int) (S18 : zS2) : Nat → Int → Int
  | 0, r22 => r22
  | fu22 + 1, r22 => (if eqs ≤ r22 then r22 else (if S18 14 (((30 * r22) + i5).toNat) = 0 then zm_solves_W22 eqs i5 S18 fu22 (r22 + 1) else r22))
def zm_solves_L88 (d5 : Int) (z80 : Int) : Int → zS2 → zS2 := fun i88 s88 => (fun (S88 : zS2) => zlet (za S88 14 (((30 * d5) + i88).toNat) (Int.tmod ((S88 14 (((30 * d5) + i88).toNat)) * z80) (S88 0 10))) (fun S125 => S125)) s88
def zm_solves_L173 (i5 : Int) (d5 : Int) (i135 : Int) (S135 : zS2) : Int → zS2 → zS2 := fun i173 s173 => (fun (S173 : zS2) => zlet (zm_modulo S173 ((S173 14 (((30 * i135) + i173).toNat)) - ((S135 14 (((30 * i135) + i5).toNat)) * (S173 14 (((30 * d5) + i173).toNat))))) (fun z224 => zlet (za S173 14 (((30 * i135) + i173).toNat) z224) (fun S227 => S227))) s173
def zm_solves_L135 (many : Int) (i5 : Int) (d5 : Int) : Int → zS2 → zS2 := fun i135 s135 => (fun (S135 : zS2) => (if i135 = d5 then S135 else (if S135 14 (((30 * i135) + i5).toNat) = 0 then S135 else zlet (zfor (zm_solves_L173 i5 d5 i135 S135) 0 S135 ((many - 1) + 1 - 0).toNat) (fun S173 => S173)))) s135
def zm_solves_L5 (eqs : Int) (many : Int) : Int → (Int × zS2) → (Int × zS2) := fun i5 s5 => (fun (d5 : Int) (S5 : zS2) => zlet (za S5 15 i5.toNat (-1)) (fun S18 => zlet (zm_solves_W22 eqs i5 S18 ((47 : Nat)) d5) (fun r22 => (if r22 = eqs then (d5, S18) else zlet (zm_swapsRows S18 r22 d5 many) (fun S64 => zlet (zm_inverse S64 (S64 14 (((30 * d5) + i5).toNat))) (fun z80 => zlet (zfor (zm_solves_L88 d5 z80) 0 S64 ((many - 1) + 1 - 0).toNat) (fun S88 => zlet (zfor (zm_solves_L135 many i5 d5) 0 S88 ((eqs - 1) + 1 - 0).toNat) (fun S135 => zlet (za S135 15 i5.toNat d5) (fun S247 => (d5 + 1, S247)))))))))) s5.1 s5.2
def zm_solves_W260 (many : Int) (S5 : zS2) : Nat → Int → Int
  | 0, q260 => q260
  | fu260 + 1, q260 => (if many ≤ q260 then q260 else (if S5 15 q260.toNat = -1 then q260 else zm_solves_W260 many S5 fu260 (q260 + 1)))
def zm_solves_L294 (q260 : Int) : Int → zS2 → zS2 := fun i294 s294 => (fun (S294 : zS2) => (if S294 15 i294.toNat = -1 then (if i294 = q260 then zlet (za S294 13 i294.toNat 1) (fun S356 => S356) else zlet (za S294 13 i294.toNat 0) (fun S356 => S356)) else zlet (zm_modulo S294 (-(S294 14 (((30 * (S294 15 i294.toNat)) + q260).toNat)))) (fun z338 => zlet (za S294 13 i294.toNat z338) (fun S356 => S356)))) s294
def zm_solves (S : zS2) (eqs : Int) (many : Int) : Int × zS2 := zlet (zfor (zm_solves_L5 eqs many) 0 (0, S) ((many - 1) + 1 - 0).toNat) (fun q5 => (fun (d5 : Int) (S5 : zS2) => zlet (zm_solves_W260 many S5 ((32 : Nat)) 0) (fun q260 => (if q260 = many then (0, S5) else zlet (zfor (zm_solves_L294 q260) 0 S5 ((many - 1) + 1 - 0).toNat) (fun S294 => (1, S294))))) q5.1 q5.2)
set_option maxRecDepth 100000 in
set_option maxHeartbeats 4000000 in
theorem zk_solves (l : Launch) {D : va_G} {cI cJ cZ cP cS cM : ClassId} {L : List Nat} {sz : Nat} {f : Nat → va_E} (o : Nat) (S : zS2) (eqs : Int) (many : Int) (hI : mI S) (heqs : 0 ≤ eqs ∧ eqs ≤ 45) (hmany : 0 ≤ many ∧ many ≤ 30) : zMi l yX12_solves wsX12_solves 3 70 D (zT cI cJ cZ cP cS cM) L sz (zMO cI cJ o S f) [.ref o, .int (zI eqs), .int (zI many)] (fun zv gv => zv = (zm_solves S eqs many).1 ∧ gv = zMO cI cJ o (zm_solves S eqs many).2 f ∧ mI (zm_solves S eqs many).2 ∧ (∀ kk ii : Nat, ¬ kk = 13 ∧ ¬ kk = 14 ∧ ¬ kk = 15 → (zm_solves S eqs many).2 kk ii = S kk ii) ∧ 0 ≤ zv ∧ zv ≤ 1) := by
  refine zWalk.met (nL := 10) (ret := (some .boolean)) (cc := cX12_solves) (by decide) rfl (Nat.le_of_ble_eq_true rfl) ?_
  intro pg en st mi ag bl mt cd ls CX hW hl
  have CX : zC pg st mi ag mt cd cX12_solves 10 (some .boolean) RX12 wsX12_solves := CX
  generalize hQ : MQ bl _ ag st 0 0 _ = Q
  have hX0 := CX.1
  have hB0 := CX.2.1
  have hl : lv_has ls 10 [(0, .ref o), (1, .int (zI eqs)), (2, .int (zI many))] := hl
  obtain ⟨H, eH⟩ : ∃ H, H = st.heap := ⟨_, rfl⟩
  obtain ⟨locs, eL⟩ : ∃ L : List Loc, L = [] := ⟨_, rfl⟩
  have hW : zW D (zT cI cJ cZ cP cS cM) L (zQ L sz) st (zMO cI cJ o S f) st.heap H locs := by rw [eH, eL]; exact hW
  suffices hgo : W pg l en ({ frames := 3, cells := 0, slots := 0, locals := 70 } : Room) st mi ag bl mt cd H locs 0 0 Q (F0 mi 0 ls []) by rw [eH, eL] at hgo; exact hgo
  clear eH eL
  have hpb := hI.s10
  refine lv_iconst (v := zI 0) hX0 hB0 dX12_solves_0 rfl ?_
  refine lv_istore_n (lv' := [(3, .int (zI 0)), (0, .ref o), (1, .int (zI eqs)), (2, .int (zI many))]) hX0 hB0 dX12_solves_1 rfl hl (by decide) rfl (fun ls hl => ?_)
  refine lv_iconst (v := zI 0) hX0 hB0 dX12_solves_2 rfl ?_
  refine lv_istore (lv' := [(4, .int (zI 0)), (3, .int (zI 0)), (0, .ref o), (1, .int (zI eqs)), (2, .int (zI many))]) hX0 hB0 dX12_solves_3 hl (by decide) rfl (fun ls hl => ?_)
  have hL5 : ∀ (fu : Nat) (i5 : Int) (d5 : Int) (S5 : zS2), ((0 ≤ i5 ∧ i5 ≤ many - 1 + 1) ∧ zfor (zm_solves_L5 eqs many) 0 (0, S) (i5 - 0).toNat = (d5, S5) ∧ mI S5 ∧ (∀ kk ii : Nat, ¬ kk = 14 ∧ ¬ kk = 15 → S5 kk ii = S kk ii) ∧ 0 ≤ d5 ∧ d5 ≤ 45 ∧ (d5 ≤ eqs)) → ((many - 1) + 1 - i5).toNat < fu → ∀ (H : Heap) (locs : List Loc) (ls : Array Slot), zW D (zT cI cJ cZ cP cS cM) L (zQ L sz) st (zMO cI cJ o S5 f) st.heap H locs → lv_has ls 10 [(4, .int (zI i5)), (3, .int (zI d5)), (0, .ref o), (1, .int (zI eqs)), (2, .int (zI many))] → W pg l en ({ frames := 3, cells := 0, slots := 0, locals := 70 } : Room) st mi ag bl mt cd H locs 0 0 Q (F0 mi 5 ls []) := by
    intro fu
    induction fu with
    | zero => intro i5 d5 S5 _ hfu; exact absurd hfu (Nat.not_lt_zero _)
    | succ fu ih5 =>
      intro i5 d5 S5 hinv hfu5 H locs ls hW hl
      obtain ⟨⟨hlo5, hhi5⟩, hz5, hI5, hf5, had5, hbd5, hv5⟩ := hinv
      have hp5 := hI5.s10
      have t5_10 : S5 0 10 = S 0 10 := hf5 0 10 (by omega)
      refine lv_iload hX0 hB0 dX12_solves_5 (lv_at hl 0 rfl) ?_
      refine lv_iload_n hX0 hB0 dX12_solves_7 rfl (lv_at hl 4 rfl) ?_
      refine z_icmp_ge (tgt := 257) CX dX12_solves_8 (by decide) (by constructor <;> omega) (by constructor <;> omega) (fun c_8 => ?_) (fun c_8 => ?_)
      ·
        have e5 : zfor (zm_solves_L5 eqs many) 0 (0, S) ((many - 1) + 1 - 0).toNat = (d5, S5) := by rw [show ((many - 1) + 1 - 0).toNat = (i5 - 0).toNat by omega]; exact hz5
        refine lv_iconst (v := zI 0) hX0 hB0 dX12_solves_257 rfl ?_
        refine lv_istore (lv' := [(4, .int (zI 0)), (3, .int (zI d5)), (0, .ref o), (1, .int (zI eqs)), (2, .int (zI many))]) hX0 hB0 dX12_solves_258 hl (by decide) rfl (fun ls hl => ?_)
        have hXt260 : ∀ (q260 : Int), (zm_solves_W260 many S5 ((32 : Nat)) 0 = q260 ∧ 0 ≤ q260 ∧ q260 ≤ 30 ∧ (q260 ≤ many)) → ∀ (H : Heap) (locs : List Loc) (ls : Array Slot), zW D (zT cI cJ cZ cP cS cM) L (zQ L sz) st (zMO cI cJ o S5 f) st.heap H locs → lv_has ls 10 [(4, .int (zI q260)), (0, .ref o), (1, .int (zI eqs)), (2, .int (zI many))] → W pg l en ({ frames := 3, cells := 0, slots := 0, locals := 70 } : Room) st mi ag bl mt cd H locs 0 0 Q (F0 mi 283 ls []) := by
          intro q260 hinv H locs ls hW hl
          obtain ⟨e260, haq260, hbq260, hv260⟩ := hinv
          refine lv_iload hX0 hB0 dX12_solves_283 (lv_at hl 0 rfl) ?_
          refine lv_iload_n hX0 hB0 dX12_solves_285 rfl (lv_at hl 3 rfl) ?_
          refine z_icmp_ne (tgt := 291) CX dX12_solves_286 (by decide) (by constructor <;> omega) (by constructor <;> omega) (fun c_286 => ?_) (fun c_286 => ?_)
          ·
            refine lv_iconst (v := zI 0) hX0 hB0 dX12_solves_291 rfl ?_
            refine lv_istore (lv' := [(5, .int (zI 0)), (4, .int (zI q260)), (0, .ref o), (1, .int (zI eqs)), (2, .int (zI many))]) hX0 hB0 dX12_solves_292 hl (by decide) rfl (fun ls hl => ?_)
            have hL294 : ∀ (fu : Nat) (i294 : Int) (S294 : zS2), ((0 ≤ i294 ∧ i294 ≤ many - 1 + 1) ∧ zfor (zm_solves_L294 q260) 0 S5 (i294 - 0).toNat = S294 ∧ mI S294 ∧ (∀ kk ii : Nat, ¬ kk = 13 → S294 kk ii = S5 kk ii)) → ((many - 1) + 1 - i294).toNat < fu → ∀ (H : Heap) (locs : List Loc) (ls : Array Slot), zW D (zT cI cJ cZ cP cS cM) L (zQ L sz) st (zMO cI cJ o S294 f) st.heap H locs → lv_has ls 10 [(5, .int (zI i294)), (4, .int (zI q260)), (0, .ref o), (1, .int (zI eqs)), (2, .int (zI many))] → W pg l en ({ frames := 3, cells := 0, slots := 0, locals := 70 } : Room) st mi ag bl mt cd H locs 0 0 Q (F0 mi 294 ls []) := by
              intro fu
              induction fu with
              | zero => intro i294 S294 _ hfu; exact absurd hfu (Nat.not_lt_zero _)
              | succ fu ih294 =>
                intro i294 S294 hinv hfu294 H locs ls hW hl
                obtain ⟨⟨hlo294, hhi294⟩, hz294, hI294, hf294⟩ := hinv
                have hp294 := hI294.s10
                have t294_10 : S294 0 10 = S5 0 10 := hf294 0 10 (by omega)
                refine lv_iload hX0 hB0 dX12_solves_294 (lv_at hl 0 rfl) ?_
                refine lv_iload_n hX0 hB0 dX12_solves_296 rfl (lv_at hl 4 rfl) ?_
                refine z_icmp_ge (tgt := 363) CX dX12_solves_297 (by decide) (by constructor <;> omega) (by constructor <;> omega) (fun c_297 => ?_) (fun c_297 => ?_)
                ·
                  have e294 : zfor (zm_solves_L294 q260) 0 S5 ((many - 1) + 1 - 0).toNat = S294 := by rw [show ((many - 1) + 1 - 0).toNat = (i294 - 0).toNat by omega]; exact hz294
                  refine lv_iconst (v := zI 1) hX0 hB0 dX12_solves_363 rfl ?_
                  have hE : zm_solves S eqs many = (1, S294) := by unfold zm_solves; exact zlet_e e5 (zlet_e e260 (zif_f c_286 (zlet_e e294 rfl)))
                  have hFr : ∀ kk ii : Nat, ¬ kk = 13 ∧ ¬ kk = 14 ∧ ¬ kk = 15 → S294 kk ii = S kk ii := fun kk ii hk => ((hf294 kk ii (by omega))).trans (hf5 kk ii (by omega))
                  rw [← hQ]
                  exact z_iret (z := 1) CX hW (by rw [hE]; exact ⟨rfl, rfl, hI294, hFr, (show 0 ≤ (1 : Int) ∧ (1 : Int) ≤ 1 from by omega)⟩) rfl dX12_solves_364
                ·
                  refine lv_aload_n hX0 hB0 dX12_solves_300 rfl (lv_at hl 2 rfl) ?_
                  refine z_get (Cn := RX12) (T := TX12) (N := 37) CX hW (v := .ref (o + 13)) zMO_0 rfl (fun w h => List.mem_cons_of_mem _ (List.mem_append_right _ h)) 27 (by decide) (List.mem_of_getElem? (i := 4) rfl) rfl rfl dX12_solves_301 ?_
                  refine lv_iload hX0 hB0 dX12_solves_304 (lv_at hl 0 rfl) ?_
                  refine lv_aload_n hX0 hB0 dX12_solves_306 rfl (lv_at hl 2 rfl) ?_
                  refine z_get (Cn := RX12) (T := TX12) (N := 37) CX hW (v := .ref (o + 15)) zMO_0 rfl (fun w h => List.mem_cons_of_mem _ (List.mem_append_right _ h)) 29 (by decide) (List.mem_of_getElem? (i := 1) rfl) rfl rfl dX12_solves_307 ?_
                  refine lv_iload hX0 hB0 dX12_solves_310 (lv_at hl 0 rfl) ?_
                  refine z_iald (z := S294 15 i294.toNat) CX hW zMO_15 0 rfl (by refine ⟨?_, ?_, ?_⟩ <;> omega) rfl dX12_solves_312 ?_
                  have hr312 := hI294.r15 i294.toNat
                  refine lv_iconst (v := zI (-1)) hX0 hB0 dX12_solves_313 rfl ?_
                  refine z_icmp_eq (tgt := 344) CX dX12_solves_314 (by decide) (by constructor <;> omega) (by constructor <;> omega) (fun c_314 => ?_) (fun c_314 => ?_)
                  ·
                    refine lv_iload hX0 hB0 dX12_solves_344 (lv_at hl 0 rfl) ?_
                    refine lv_iload hX0 hB0 dX12_solves_346 (lv_at hl 1 rfl) ?_
                    refine z_icmp_ne (tgt := 355) CX dX12_solves_348 (by decide) (by constructor <;> omega) (by constructor <;> omega) (fun c_348 => ?_) (fun c_348 => ?_)
                    ·
                      refine lv_iconst (v := zI 0) hX0 hB0 dX12_solves_355 rfl ?_
                      obtain ⟨S356, e356⟩ : ∃ q, za S294 13 i294.toNat 0 = q := ⟨_, rfl⟩
                      refine z_iast CX hW zMO_13 0 rfl (by refine ⟨?_, ?_, ?_⟩ <;> omega) (g := zMO cI cJ o S356 f) (zMO_w13.trans (by rw [← e356]; rfl)) dX12_solves_356 (fun H locs hW => ?_)
                      have hI356 : mI S356 := e356 ▸ hI294.w13 (by constructor <;> omega)
                      have t356_10 : S356 0 10 = S294 0 10 := by rw [← e356]; exact za_ne (by omega)
                      refine lv_iinc (v := zI (i294 + 1)) (lv' := [(5, .int (zI (i294 + 1))), (4, .int (zI q260)), (0, .ref o), (1, .int (zI eqs)), (2, .int (zI many))]) hX0 hB0 dX12_solves_357 hl (k := 0) rfl (zI_add _ _) (by decide) rfl (fun ls hl => ?_)
                      refine lv_goto (tgt := 294) hX0 hB0 dX12_solves_360 (by decide) ?_
                      exact ih294 (i294 + 1) S356 ⟨⟨by omega, by omega⟩, (zfor_s _ _ _ (by omega)).trans ((congrArg (zm_solves_L294 q260 i294) hz294).trans (by unfold zm_solves_L294; exact zif_t c_314 (zif_f c_348 (zlet_e e356 rfl)))), hI356, fun kk ii hk => ((show S356 kk ii = S294 kk ii from by rw [← e356]; exact za_ne (by omega))).trans (hf294 kk ii (by omega))⟩ (by omega) H locs ls hW (lv_sub hl [0, 1, 2, 3, 4] rfl)
                    ·
                      refine lv_iconst (v := zI 1) hX0 hB0 dX12_solves_351 rfl ?_
                      refine lv_goto (tgt := 356) hX0 hB0 dX12_solves_352 (by decide) ?_
                      obtain ⟨S356, e356⟩ : ∃ q, za S294 13 i294.toNat 1 = q := ⟨_, rfl⟩
                      refine z_iast CX hW zMO_13 0 rfl (by refine ⟨?_, ?_, ?_⟩ <;> omega) (g := zMO cI cJ o S356 f) (zMO_w13.trans (by rw [← e356]; rfl)) dX12_solves_356 (fun H locs hW => ?_)
                      have hI356 : mI S356 := e356 ▸ hI294.w13 (by constructor <;> omega)
                      have t356_10 : S356 0 10 = S294 0 10 := by rw [← e356]; exact za_ne (by omega)
                      refine lv_iinc (v := zI (i294 + 1)) (lv' := [(5, .int (zI (i294 + 1))), (4, .int (zI q260)), (0, .ref o), (1, .int (zI eqs)), (2, .int (zI many))]) hX0 hB0 dX12_solves_357 hl (k := 0) rfl (zI_add _ _) (by decide) rfl (fun ls hl => ?_)
                      refine lv_goto (tgt := 294) hX0 hB0 dX12_solves_360 (by decide) ?_
                      exact ih294 (i294 + 1) S356 ⟨⟨by omega, by omega⟩, (zfor_s _ _ _ (by omega)).trans ((congrArg (zm_solves_L294 q260 i294) hz294).trans (by unfold zm_solves_L294; exact zif_t c_314 (zif_t c_348 (zlet_e e356 rfl)))), hI356, fun kk ii hk => ((show S356 kk ii = S294 kk ii from by rw [← e356]; exact za_ne (by omega))).trans (hf294 kk ii (by omega))⟩ (by omega) H locs ls hW (lv_sub hl [0, 1, 2, 3, 4] rfl)
                  ·
                    refine lv_aload_n hX0 hB0 dX12_solves_317 rfl (lv_at hl 2 rfl) ?_
                    refine lv_aload_n hX0 hB0 dX12_solves_318 rfl (lv_at hl 2 rfl) ?_
                    refine z_get (Cn := RX12) (T := TX12) (N := 37) CX hW (v := .ref (o + 14)) zMO_0 rfl (fun w h => List.mem_cons_of_mem _ (List.mem_append_right _ h)) 28 (by decide) (List.mem_of_getElem? (i := 2) rfl) rfl rfl dX12_solves_319 ?_
                    refine lv_bipush (v := zI 30) hX0 hB0 dX12_solves_322 (by decide) ?_
                    refine lv_aload_n hX0 hB0 dX12_solves_324 rfl (lv_at hl 2 rfl) ?_
                    refine z_get (Cn := RX12) (T := TX12) (N := 37) CX hW (v := .ref (o + 15)) zMO_0 rfl (fun w h => List.mem_cons_of_mem _ (List.mem_append_right _ h)) 29 (by decide) (List.mem_of_getElem? (i := 1) rfl) rfl rfl dX12_solves_325 ?_
                    refine lv_iload hX0 hB0 dX12_solves_328 (lv_at hl 0 rfl) ?_
                    refine z_iald (z := S294 15 i294.toNat) CX hW zMO_15 0 rfl (by refine ⟨?_, ?_, ?_⟩ <;> omega) rfl dX12_solves_330 ?_
                    have hr330 := hI294.r15 i294.toNat
                    refine z_imul (z := 30 * (S294 15 i294.toNat)) CX dX12_solves_331 rfl ?_
                    refine lv_iload hX0 hB0 dX12_solves_332 (lv_at hl 1 rfl) ?_
                    refine z_iadd (z := (30 * (S294 15 i294.toNat)) + q260) CX dX12_solves_334 rfl ?_
                    refine z_iald (z := S294 14 (((30 * (S294 15 i294.toNat)) + q260).toNat)) CX hW zMO_14 0 rfl (by refine ⟨?_, ?_, ?_⟩ <;> omega) rfl dX12_solves_335 ?_
                    have hr335 := hI294.r14 (((30 * (S294 15 i294.toNat)) + q260).toNat)
                    refine z_ineg (z := -(S294 14 (((30 * (S294 15 i294.toNat)) + q260).toNat))) CX dX12_solves_336 rfl ?_
                    refine z_i2l CX dX12_solves_337 (by constructor <;> omega) ?_
                    refine z_calli hW (va_runV (C := RX12) (As := [.long (zL (-(S294 14 (((30 * (S294 15 i294.toNat)) + q260).toNat))))]) (rest := [.int (zI i294), .ref (o + 13)]) CX.fix (zk_modulo l o S294 (-(S294 14 (((30 * (S294 15 i294.toNat)) + q260).toNat))) hI294 (by constructor <;> omega)) (cwV 1 CX.fix.2.2.2.2 gX12_solves_X12_modulo rfl rfl rfl (by decide +kernel) ⟨Nat.le_of_ble_eq_true rfl, Nat.le_of_ble_eq_true rfl⟩) (z_preV CX hW (r := (RX12, TX12, 37)) zMO_0 rfl) rfl rfl hl.1 rfl (lv_room (Nat.le_of_ble_eq_true rfl)) dX12_solves_338 ⟨Nat.zero_le _, Nat.zero_le _⟩) (fun z338 gn H locs hok hW => ?_)
                    obtain ⟨hz338, hg, hq338⟩ := hok
                    rw [hg] at hW
                    clear hg
                    have e338 : zm_modulo S294 (-(S294 14 (((30 * (S294 15 i294.toNat)) + q260).toNat))) = z338 := hz338.symm
                    clear hz338
                    refine lv_goto (tgt := 356) hX0 hB0 dX12_solves_341 (by decide) ?_
                    obtain ⟨S356, e356⟩ : ∃ q, za S294 13 i294.toNat z338 = q := ⟨_, rfl⟩
                    refine z_iast CX hW zMO_13 0 rfl (by refine ⟨?_, ?_, ?_⟩ <;> omega) (g := zMO cI cJ o S356 f) (zMO_w13.trans (by rw [← e356]; rfl)) dX12_solves_356 (fun H locs hW => ?_)
                    have hI356 : mI S356 := e356 ▸ hI294.w13 (by constructor <;> omega)
                    have t356_10 : S356 0 10 = S294 0 10 := by rw [← e356]; exact za_ne (by omega)
                    refine lv_iinc (v := zI (i294 + 1)) (lv' := [(5, .int (zI (i294 + 1))), (4, .int (zI q260)), (0, .ref o), (1, .int (zI eqs)), (2, .int (zI many))]) hX0 hB0 dX12_solves_357 hl (k := 0) rfl (zI_add _ _) (by decide) rfl (fun ls hl => ?_)
                    refine lv_goto (tgt := 294) hX0 hB0 dX12_solves_360 (by decide) ?_
                    exact ih294 (i294 + 1) S356 ⟨⟨by omega, by omega⟩, (zfor_s _ _ _ (by omega)).trans ((congrArg (zm_solves_L294 q260 i294) hz294).trans (by unfold zm_solves_L294; exact zif_f c_314 (zlet_e e338 (zlet_e e356 rfl)))), hI356, fun kk ii hk => ((show S356 kk ii = S294 kk ii from by rw [← e356]; exact za_ne (by omega))).trans (hf294 kk ii (by omega))⟩ (by omega) H locs ls hW (lv_sub hl [0, 1, 2, 3, 4] rfl)
            exact hL294 _ 0 S5 ⟨⟨by omega, by omega⟩, zfor_0 _ _ _, hI5, fun kk ii hk => rfl⟩ (Nat.lt_succ_self _) H locs ls hW (lv_sub hl [0, 1, 2, 3, 4] rfl)
          ·
            refine lv_iconst (v := zI 0) hX0 hB0 dX12_solves_289 rfl ?_
            have hE : zm_solves S eqs many = (0, S5) := by unfold zm_solves; exact zlet_e e5 (zlet_e e260 (zif_t c_286 rfl))
            have hFr : ∀ kk ii : Nat, ¬ kk = 13 ∧ ¬ kk = 14 ∧ ¬ kk = 15 → S5 kk ii = S kk ii := fun kk ii hk => (hf5 kk ii (by omega))
            rw [← hQ]
            exact z_iret (z := 0) CX hW (by rw [hE]; exact ⟨rfl, rfl, hI5, hFr, (show 0 ≤ (0 : Int) ∧ (0 : Int) ≤ 1 from by omega)⟩) rfl dX12_solves_290
        have hL260 : ∀ (fu : Nat) (q260 : Int), (zm_solves_W260 many S5 ((32 : Nat)) 0 = zm_solves_W260 many S5 fu q260 ∧ 0 ≤ q260 ∧ q260 ≤ 30 ∧ (q260 ≤ many)) → (31 - q260).toNat < fu → ∀ (H : Heap) (locs : List Loc) (ls : Array Slot), zW D (zT cI cJ cZ cP cS cM) L (zQ L sz) st (zMO cI cJ o S5 f) st.heap H locs → lv_has ls 10 [(4, .int (zI q260)), (0, .ref o), (1, .int (zI eqs)), (2, .int (zI many))] → W pg l en ({ frames := 3, cells := 0, slots := 0, locals := 70 } : Room) st mi ag bl mt cd H locs 0 0 Q (F0 mi 260 ls []) := by
          intro fu
          induction fu with
          | zero => intro q260 _ hfu; exact absurd hfu (Nat.not_lt_zero _)
          | succ fu ih260 =>
            intro q260 hinv hfu260 H locs ls hW hl
            obtain ⟨hz260, haq260, hbq260, hv260⟩ := hinv
            refine lv_iload hX0 hB0 dX12_solves_260 (lv_at hl 0 rfl) ?_
            refine lv_iload_n hX0 hB0 dX12_solves_262 rfl (lv_at hl 3 rfl) ?_
            refine z_icmp_ge (tgt := 283) CX dX12_solves_263 (by decide) (by constructor <;> omega) (by constructor <;> omega) (fun c_263 => ?_) (fun c_263 => ?_)
            ·
              exact hXt260 q260 ⟨hz260.trans (by rw [zm_solves_W260]; exact zif_t c_263 rfl), by omega, by omega, by omega⟩ H locs ls hW (lv_sub hl [0, 1, 2, 3] rfl)
            ·
              have d_263 : ¬ many ≤ q260 := by omega
              refine lv_aload_n hX0 hB0 dX12_solves_266 rfl (lv_at hl 1 rfl) ?_
              refine z_get (Cn := RX12) (T := TX12) (N := 37) CX hW (v := .ref (o + 15)) zMO_0 rfl (fun w h => List.mem_cons_of_mem _ (List.mem_append_right _ h)) 29 (by decide) (List.mem_of_getElem? (i := 1) rfl) rfl rfl dX12_solves_267 ?_
              refine lv_iload hX0 hB0 dX12_solves_270 (lv_at hl 0 rfl) ?_
              refine z_iald (z := S5 15 q260.toNat) CX hW zMO_15 0 rfl (by refine ⟨?_, ?_, ?_⟩ <;> omega) rfl dX12_solves_272 ?_
              have hr272 := hI5.r15 q260.toNat
              refine lv_iconst (v := zI (-1)) hX0 hB0 dX12_solves_273 rfl ?_
              refine z_icmp_eq (tgt := 283) CX dX12_solves_274 (by decide) (by constructor <;> omega) (by constructor <;> omega) (fun c_274 => ?_) (fun c_274 => ?_)
              ·
                exact hXt260 q260 ⟨hz260.trans (by rw [zm_solves_W260]; exact zif_f d_263 (zif_t c_274 rfl)), by omega, by omega, by omega⟩ H locs ls hW (lv_sub hl [0, 1, 2, 3] rfl)
              ·
                refine lv_iinc (v := zI (q260 + 1)) (lv' := [(4, .int (zI (q260 + 1))), (0, .ref o), (1, .int (zI eqs)), (2, .int (zI many))]) hX0 hB0 dX12_solves_277 hl (k := 0) rfl (zI_add _ _) (by decide) rfl (fun ls hl => ?_)
                refine lv_goto (tgt := 260) hX0 hB0 dX12_solves_280 (by decide) ?_
                exact ih260 (q260 + 1) ⟨hz260.trans (by rw [zm_solves_W260]; exact zif_f d_263 (zif_f c_274 rfl)), by omega, by omega, by omega⟩ (by omega) H locs ls hW (lv_sub hl [0, 1, 2, 3] rfl)
        exact hL260 _ 0 ⟨rfl, by omega, by omega, by omega⟩ (by omega) H locs ls hW (lv_sub hl [0, 2, 3, 4] rfl)
      ·
        refine lv_aload_n hX0 hB0 dX12_solves_11 rfl (lv_at hl 2 rfl) ?_
        refine z_get (Cn := RX12) (T := TX12) (N := 37) CX hW (v := .ref (o + 15)) zMO_0 rfl (fun w h => List.mem_cons_of_mem _ (List.mem_append_right _ h)) 29 (by decide) (List.mem_of_getElem? (i := 1) rfl) rfl rfl dX12_solves_12 ?_
        refine lv_iload hX0 hB0 dX12_solves_15 (lv_at hl 0 rfl) ?_
        refine lv_iconst (v := zI (-1)) hX0 hB0 dX12_solves_17 rfl ?_
        obtain ⟨S18, e18⟩ : ∃ q, za S5 15 i5.toNat (-1) = q := ⟨_, rfl⟩
        refine z_iast CX hW zMO_15 0 rfl (by refine ⟨?_, ?_, ?_⟩ <;> omega) (g := zMO cI cJ o S18 f) (zMO_w15.trans (by rw [← e18]; rfl)) dX12_solves_18 (fun H locs hW => ?_)
        have hI18 : mI S18 := e18 ▸ hI5.w15 (by constructor <;> omega)
        have t18_10 : S18 0 10 = S5 0 10 := by rw [← e18]; exact za_ne (by omega)
        refine lv_iload_n hX0 hB0 dX12_solves_19 rfl (lv_at hl 1 rfl) ?_
        refine lv_istore (lv' := [(5, .int (zI d5)), (4, .int (zI i5)), (3, .int (zI d5)), (0, .ref o), (1, .int (zI eqs)), (2, .int (zI many))]) hX0 hB0 dX12_solves_20 hl (by decide) rfl (fun ls hl => ?_)
        have hXt22 : ∀ (r22 : Int), (zm_solves_W22 eqs i5 S18 ((47 : Nat)) d5 = r22 ∧ 0 ≤ r22 ∧ r22 ≤ 45 ∧ (d5 ≤ r22 ∧ r22 ≤ eqs)) → ∀ (H : Heap) (locs : List Loc) (ls : Array Slot), zW D (zT cI cJ cZ cP cS cM) L (zQ L sz) st (zMO cI cJ o S18 f) st.heap H locs → lv_has ls 10 [(5, .int (zI r22)), (4, .int (zI i5)), (3, .int (zI d5)), (0, .ref o), (1, .int (zI eqs)), (2, .int (zI many))] → W pg l en ({ frames := 3, cells := 0, slots := 0, locals := 70 } : Room) st mi ag bl mt cd H locs 0 0 Q (F0 mi 50 ls []) := by
          intro r22 hinv H locs ls hW hl
          obtain ⟨e22, har22, hbr22, hv22⟩ := hinv
          skip
          refine lv_iload hX0 hB0 dX12_solves_50 (lv_at hl 0 rfl) ?_
          refine lv_iload_n hX0 hB0 dX12_solves_52 rfl (lv_at hl 4 rfl) ?_
          refine z_icmp_ne (tgt := 59) CX dX12_solves_53 (by decide) (by constructor <;> omega) (by constructor <;> omega) (fun c_53 => ?_) (fun c_53 => ?_)
          ·
            refine lv_aload_n hX0 hB0 dX12_solves_59 rfl (lv_at hl 3 rfl) ?_
            refine lv_iload hX0 hB0 dX12_solves_60 (lv_at hl 0 rfl) ?_
            refine lv_iload_n hX0 hB0 dX12_solves_62 rfl (lv_at hl 2 rfl) ?_
            refine lv_iload_n hX0 hB0 dX12_solves_63 rfl (lv_at hl 5 rfl) ?_
            refine z_callv hW (va_runV (C := RX12) (As := [.int (zI r22), .int (zI d5), .int (zI many)]) (rest := []) CX.fix (zk_swapsRows l o S18 r22 d5 many hI18 (by constructor <;> omega) (by constructor <;> omega) (by constructor <;> omega)) (cwV 3 CX.fix.2.2.2.2 gX12_solves_X12_swapsRows rfl rfl rfl (by decide +kernel) ⟨Nat.le_of_ble_eq_true rfl, Nat.le_of_ble_eq_true rfl⟩) (z_preV CX hW (r := (RX12, TX12, 37)) zMO_0 rfl) rfl rfl hl.1 rfl (lv_room (Nat.le_of_ble_eq_true rfl)) dX12_solves_64 ⟨Nat.zero_le _, Nat.zero_le _⟩) (fun gn H locs hok hW => ?_)
            obtain ⟨hg, hI64, hf64, hq64⟩ := hok
            obtain ⟨S64, e64⟩ : ∃ q, zm_swapsRows S18 r22 d5 many = q := ⟨_, rfl⟩
            rw [e64] at hg hI64 hf64
            have t64_10 : S64 0 10 = S18 0 10 := hf64 0 10 (by omega)
            skip
            try rw [e64] at hq64
            rw [hg] at hW
            clear hg
            refine lv_aload_n hX0 hB0 dX12_solves_67 rfl (lv_at hl 3 rfl) ?_
            refine lv_aload_n hX0 hB0 dX12_solves_68 rfl (lv_at hl 3 rfl) ?_
            refine z_get (Cn := RX12) (T := TX12) (N := 37) CX hW (v := .ref (o + 14)) zMO_0 rfl (fun w h => List.mem_cons_of_mem _ (List.mem_append_right _ h)) 28 (by decide) (List.mem_of_getElem? (i := 2) rfl) rfl rfl dX12_solves_69 ?_
            refine lv_bipush (v := zI 30) hX0 hB0 dX12_solves_72 (by decide) ?_
            refine lv_iload_n hX0 hB0 dX12_solves_74 rfl (lv_at hl 2 rfl) ?_
            refine z_imul (z := 30 * d5) CX dX12_solves_75 rfl ?_
            refine lv_iload hX0 hB0 dX12_solves_76 (lv_at hl 1 rfl) ?_
            refine z_iadd (z := (30 * d5) + i5) CX dX12_solves_78 rfl ?_
            refine z_iald (z := S64 14 (((30 * d5) + i5).toNat)) CX hW zMO_14 0 rfl (by refine ⟨?_, ?_, ?_⟩ <;> omega) rfl dX12_solves_79 ?_
            have hr79 := hI64.r14 (((30 * d5) + i5).toNat)
            refine z_calli hW (va_runV (C := RX12) (As := [.int (zI (S64 14 (((30 * d5) + i5).toNat)))]) (rest := []) CX.fix (zk_inverse l o S64 (S64 14 (((30 * d5) + i5).toNat)) hI64 (by constructor <;> omega)) (cwV 1 CX.fix.2.2.2.2 gX12_solves_X12_inverse rfl rfl rfl (by decide +kernel) ⟨Nat.le_of_ble_eq_true rfl, Nat.le_of_ble_eq_true rfl⟩) (z_preV CX hW (r := (RX12, TX12, 37)) zMO_0 rfl) rfl rfl hl.1 rfl (lv_room (Nat.le_of_ble_eq_true rfl)) dX12_solves_80 ⟨Nat.zero_le _, Nat.zero_le _⟩) (fun z80 gn H locs hok hW => ?_)
            obtain ⟨hz80, hg, hq80⟩ := hok
            rw [hg] at hW
            clear hg
            have e80 : zm_inverse S64 (S64 14 (((30 * d5) + i5).toNat)) = z80 := hz80.symm
            clear hz80
            refine lv_istore (lv' := [(6, .int (zI z80)), (5, .int (zI r22)), (4, .int (zI i5)), (3, .int (zI d5)), (0, .ref o), (1, .int (zI eqs)), (2, .int (zI many))]) hX0 hB0 dX12_solves_83 hl (by decide) rfl (fun ls hl => ?_)
            refine lv_iconst (v := zI 0) hX0 hB0 dX12_solves_85 rfl ?_
            refine lv_istore (lv' := [(7, .int (zI 0)), (6, .int (zI z80)), (5, .int (zI r22)), (4, .int (zI i5)), (3, .int (zI d5)), (0, .ref o), (1, .int (zI eqs)), (2, .int (zI many))]) hX0 hB0 dX12_solves_86 hl (by decide) rfl (fun ls hl => ?_)
            have hL88 : ∀ (fu : Nat) (i88 : Int) (S88 : zS2), ((0 ≤ i88 ∧ i88 ≤ many - 1 + 1) ∧ zfor (zm_solves_L88 d5 z80) 0 S64 (i88 - 0).toNat = S88 ∧ mI S88 ∧ (∀ kk ii : Nat, ¬ kk = 14 → S88 kk ii = S64 kk ii)) → ((many - 1) + 1 - i88).toNat < fu → ∀ (H : Heap) (locs : List Loc) (ls : Array Slot), zW D (zT cI cJ cZ cP cS cM) L (zQ L sz) st (zMO cI cJ o S88 f) st.heap H locs → lv_has ls 10 [(7, .int (zI i88)), (6, .int (zI z80)), (5, .int (zI r22)), (4, .int (zI i5)), (3, .int (zI d5)), (0, .ref o), (1, .int (zI eqs)), (2, .int (zI many))] → W pg l en ({ frames := 3, cells := 0, slots := 0, locals := 70 } : Room) st mi ag bl mt cd H locs 0 0 Q (F0 mi 88 ls []) := by
              intro fu
              induction fu with
              | zero => intro i88 S88 _ hfu; exact absurd hfu (Nat.not_lt_zero _)
              | succ fu ih88 =>
                intro i88 S88 hinv hfu88 H locs ls hW hl
                obtain ⟨⟨hlo88, hhi88⟩, hz88, hI88, hf88⟩ := hinv
                have hp88 := hI88.s10
                have t88_10 : S88 0 10 = S64 0 10 := hf88 0 10 (by omega)
                refine lv_iload hX0 hB0 dX12_solves_88 (lv_at hl 0 rfl) ?_
                refine lv_iload_n hX0 hB0 dX12_solves_90 rfl (lv_at hl 7 rfl) ?_
                refine z_icmp_ge (tgt := 132) CX dX12_solves_91 (by decide) (by constructor <;> omega) (by constructor <;> omega) (fun c_91 => ?_) (fun c_91 => ?_)
                ·
                  have e88 : zfor (zm_solves_L88 d5 z80) 0 S64 ((many - 1) + 1 - 0).toNat = S88 := by rw [show ((many - 1) + 1 - 0).toNat = (i88 - 0).toNat by omega]; exact hz88
                  refine lv_iconst (v := zI 0) hX0 hB0 dX12_solves_132 rfl ?_
                  refine lv_istore (lv' := [(7, .int (zI 0)), (6, .int (zI z80)), (5, .int (zI r22)), (4, .int (zI i5)), (3, .int (zI d5)), (0, .ref o), (1, .int (zI eqs)), (2, .int (zI many))]) hX0 hB0 dX12_solves_133 hl (by decide) rfl (fun ls hl => ?_)
                  have hL135 : ∀ (fu : Nat) (i135 : Int) (S135 : zS2), ((0 ≤ i135 ∧ i135 ≤ eqs - 1 + 1) ∧ zfor (zm_solves_L135 many i5 d5) 0 S88 (i135 - 0).toNat = S135 ∧ mI S135 ∧ (∀ kk ii : Nat, ¬ kk = 14 → S135 kk ii = S88 kk ii)) → ((eqs - 1) + 1 - i135).toNat < fu → ∀ (H : Heap) (locs : List Loc) (ls : Array Slot), zW D (zT cI cJ cZ cP cS cM) L (zQ L sz) st (zMO cI cJ o S135 f) st.heap H locs → lv_has ls 10 [(7, .int (zI i135)), (6, .int (zI z80)), (5, .int (zI r22)), (4, .int (zI i5)), (3, .int (zI d5)), (0, .ref o), (1, .int (zI eqs)), (2, .int (zI many))] → W pg l en ({ frames := 3, cells := 0, slots := 0, locals := 70 } : Room) st mi ag bl mt cd H locs 0 0 Q (F0 mi 135 ls []) := by
                    intro fu
                    induction fu with
                    | zero => intro i135 S135 _ hfu; exact absurd hfu (Nat.not_lt_zero _)
                    | succ fu ih135 =>
                      intro i135 S135 hinv hfu135 H locs ls hW hl
                      obtain ⟨⟨hlo135, hhi135⟩, hz135, hI135, hf135⟩ := hinv
                      have hp135 := hI135.s10
                      have t135_10 : S135 0 10 = S88 0 10 := hf135 0 10 (by omega)
                      refine lv_iload hX0 hB0 dX12_solves_135 (lv_at hl 0 rfl) ?_
                      refine lv_iload_n hX0 hB0 dX12_solves_137 rfl (lv_at hl 6 rfl) ?_
                      refine z_icmp_ge (tgt := 240) CX dX12_solves_138 (by decide) (by constructor <;> omega) (by constructor <;> omega) (fun c_138 => ?_) (fun c_138 => ?_)
                      ·
                        have e135 : zfor (zm_solves_L135 many i5 d5) 0 S88 ((eqs - 1) + 1 - 0).toNat = S135 := by rw [show ((eqs - 1) + 1 - 0).toNat = (i135 - 0).toNat by omega]; exact hz135
                        refine lv_aload_n hX0 hB0 dX12_solves_240 rfl (lv_at hl 5 rfl) ?_
                        refine z_get (Cn := RX12) (T := TX12) (N := 37) CX hW (v := .ref (o + 15)) zMO_0 rfl (fun w h => List.mem_cons_of_mem _ (List.mem_append_right _ h)) 29 (by decide) (List.mem_of_getElem? (i := 1) rfl) rfl rfl dX12_solves_241 ?_
                        refine lv_iload hX0 hB0 dX12_solves_244 (lv_at hl 3 rfl) ?_
                        refine lv_iload_n hX0 hB0 dX12_solves_246 rfl (lv_at hl 4 rfl) ?_
                        obtain ⟨S247, e247⟩ : ∃ q, za S135 15 i5.toNat d5 = q := ⟨_, rfl⟩
                        refine z_iast CX hW zMO_15 0 rfl (by refine ⟨?_, ?_, ?_⟩ <;> omega) (g := zMO cI cJ o S247 f) (zMO_w15.trans (by rw [← e247]; rfl)) dX12_solves_247 (fun H locs hW => ?_)
                        have hI247 : mI S247 := e247 ▸ hI135.w15 (by constructor <;> omega)
                        have t247_10 : S247 0 10 = S135 0 10 := by rw [← e247]; exact za_ne (by omega)
                        refine lv_iinc (v := zI (d5 + 1)) (lv' := [(3, .int (zI (d5 + 1))), (7, .int (zI i135)), (6, .int (zI z80)), (5, .int (zI r22)), (4, .int (zI i5)), (0, .ref o), (1, .int (zI eqs)), (2, .int (zI many))]) hX0 hB0 dX12_solves_248 hl (k := 4) rfl (zI_add _ _) (by decide) rfl (fun ls hl => ?_)
                        refine lv_iinc (v := zI (i5 + 1)) (lv' := [(4, .int (zI (i5 + 1))), (3, .int (zI (d5 + 1))), (7, .int (zI i135)), (6, .int (zI z80)), (5, .int (zI r22)), (0, .ref o), (1, .int (zI eqs)), (2, .int (zI many))]) hX0 hB0 dX12_solves_251 hl (k := 4) rfl (zI_add _ _) (by decide) rfl (fun ls hl => ?_)
                        refine lv_goto (tgt := 5) hX0 hB0 dX12_solves_254 (by decide) ?_
                        exact ih5 (i5 + 1) (d5 + 1) S247 ⟨⟨by omega, by omega⟩, (zfor_s _ _ _ (by omega)).trans ((congrArg (zm_solves_L5 eqs many i5) hz5).trans (by unfold zm_solves_L5; exact zlet_e e18 (zlet_e e22 (zif_f c_53 (zlet_e e64 (zlet_e e80 (zlet_e e88 (zlet_e e135 (zlet_e e247 rfl))))))))), hI247, fun kk ii hk => ((((((show S247 kk ii = S135 kk ii from by rw [← e247]; exact za_ne (by omega))).trans (hf135 kk ii (by omega))).trans (hf88 kk ii (by omega))).trans (hf64 kk ii (by omega))).trans (show S18 kk ii = S5 kk ii from by rw [← e18]; exact za_ne (by omega))).trans (hf5 kk ii (by omega)), by omega, by omega, by omega⟩ (by omega) H locs ls hW (lv_sub hl [0, 1, 5, 6, 7] rfl)
                      ·
                        refine lv_aload_n hX0 hB0 dX12_solves_141 rfl (lv_at hl 5 rfl) ?_
                        refine z_get (Cn := RX12) (T := TX12) (N := 37) CX hW (v := .ref (o + 14)) zMO_0 rfl (fun w h => List.mem_cons_of_mem _ (List.mem_append_right _ h)) 28 (by decide) (List.mem_of_getElem? (i := 2) rfl) rfl rfl dX12_solves_142 ?_
                        refine lv_bipush (v := zI 30) hX0 hB0 dX12_solves_145 (by decide) ?_
                        refine lv_iload hX0 hB0 dX12_solves_147 (lv_at hl 0 rfl) ?_
                        refine z_imul (z := 30 * i135) CX dX12_solves_149 rfl ?_
                        refine lv_iload hX0 hB0 dX12_solves_150 (lv_at hl 3 rfl) ?_
                        refine z_iadd (z := (30 * i135) + i5) CX dX12_solves_152 rfl ?_
                        refine z_iald (z := S135 14 (((30 * i135) + i5).toNat)) CX hW zMO_14 0 rfl (by refine ⟨?_, ?_, ?_⟩ <;> omega) rfl dX12_solves_153 ?_
                        have hr153 := hI135.r14 (((30 * i135) + i5).toNat)
                        refine lv_istore (lv' := [(8, .int (zI (S135 14 (((30 * i135) + i5).toNat)))), (7, .int (zI i135)), (6, .int (zI z80)), (5, .int (zI r22)), (4, .int (zI i5)), (3, .int (zI d5)), (0, .ref o), (1, .int (zI eqs)), (2, .int (zI many))]) hX0 hB0 dX12_solves_154 hl (by decide) rfl (fun ls hl => ?_)
                        refine lv_iload hX0 hB0 dX12_solves_156 (lv_at hl 1 rfl) ?_
                        refine lv_iload_n hX0 hB0 dX12_solves_158 rfl (lv_at hl 5 rfl) ?_
                        refine z_icmp_eq (tgt := 234) CX dX12_solves_159 (by decide) (by constructor <;> omega) (by constructor <;> omega) (fun c_159 => ?_) (fun c_159 => ?_)
                        ·
                          refine lv_iinc (v := zI (i135 + 1)) (lv' := [(7, .int (zI (i135 + 1))), (8, .int (zI (S135 14 (((30 * i135) + i5).toNat)))), (6, .int (zI z80)), (5, .int (zI r22)), (4, .int (zI i5)), (3, .int (zI d5)), (0, .ref o), (1, .int (zI eqs)), (2, .int (zI many))]) hX0 hB0 dX12_solves_234 hl (k := 1) rfl (zI_add _ _) (by decide) rfl (fun ls hl => ?_)
                          refine lv_goto (tgt := 135) hX0 hB0 dX12_solves_237 (by decide) ?_
                          exact ih135 (i135 + 1) S135 ⟨⟨by omega, by omega⟩, (zfor_s _ _ _ (by omega)).trans ((congrArg (zm_solves_L135 many i5 d5 i135) hz135).trans (by unfold zm_solves_L135; exact zif_t c_159 rfl)), hI135, fun kk ii hk => (hf135 kk ii (by omega))⟩ (by omega) H locs ls hW (lv_sub hl [0, 2, 3, 4, 5, 6, 7, 8] rfl)
                        ·
                          refine lv_iload hX0 hB0 dX12_solves_162 (lv_at hl 0 rfl) ?_
                          refine z_if_ne (tgt := 170) CX dX12_solves_164 (by decide) (by constructor <;> omega) (fun c_164 => ?_) (fun c_164 => ?_)
                          ·
                            refine lv_iconst (v := zI 0) hX0 hB0 dX12_solves_170 rfl ?_
                            refine lv_istore (lv' := [(9, .int (zI 0)), (8, .int (zI (S135 14 (((30 * i135) + i5).toNat)))), (7, .int (zI i135)), (6, .int (zI z80)), (5, .int (zI r22)), (4, .int (zI i5)), (3, .int (zI d5)), (0, .ref o), (1, .int (zI eqs)), (2, .int (zI many))]) hX0 hB0 dX12_solves_171 hl (by decide) rfl (fun ls hl => ?_)
                            have hL173 : ∀ (fu : Nat) (i173 : Int) (S173 : zS2), ((0 ≤ i173 ∧ i173 ≤ many - 1 + 1) ∧ zfor (zm_solves_L173 i5 d5 i135 S135) 0 S135 (i173 - 0).toNat = S173 ∧ mI S173 ∧ (∀ kk ii : Nat, ¬ kk = 14 → S173 kk ii = S135 kk ii)) → ((many - 1) + 1 - i173).toNat < fu → ∀ (H : Heap) (locs : List Loc) (ls : Array Slot), zW D (zT cI cJ cZ cP cS cM) L (zQ L sz) st (zMO cI cJ o S173 f) st.heap H locs → lv_has ls 10 [(9, .int (zI i173)), (8, .int (zI (S135 14 (((30 * i135) + i5).toNat)))), (7, .int (zI i135)), (6, .int (zI z80)), (5, .int (zI r22)), (4, .int (zI i5)), (3, .int (zI d5)), (0, .ref o), (1, .int (zI eqs)), (2, .int (zI many))] → W pg l en ({ frames := 3, cells := 0, slots := 0, locals := 70 } : Room) st mi ag bl mt cd H locs 0 0 Q (F0 mi 173 ls []) := by
                              intro fu
                              induction fu with
                              | zero => intro i173 S173 _ hfu; exact absurd hfu (Nat.not_lt_zero _)
                              | succ fu ih173 =>
                                intro i173 S173 hinv hfu173 H locs ls hW hl
                                obtain ⟨⟨hlo173, hhi173⟩, hz173, hI173, hf173⟩ := hinv
                                have hp173 := hI173.s10
                                have t173_10 : S173 0 10 = S135 0 10 := hf173 0 10 (by omega)
                                refine lv_iload hX0 hB0 dX12_solves_173 (lv_at hl 0 rfl) ?_
                                refine lv_iload_n hX0 hB0 dX12_solves_175 rfl (lv_at hl 9 rfl) ?_
                                refine z_icmp_ge (tgt := 234) CX dX12_solves_176 (by decide) (by constructor <;> omega) (by constructor <;> omega) (fun c_176 => ?_) (fun c_176 => ?_)
                                ·
                                  have e173 : zfor (zm_solves_L173 i5 d5 i135 S135) 0 S135 ((many - 1) + 1 - 0).toNat = S173 := by rw [show ((many - 1) + 1 - 0).toNat = (i173 - 0).toNat by omega]; exact hz173
                                  refine lv_iinc (v := zI (i135 + 1)) (lv' := [(7, .int (zI (i135 + 1))), (9, .int (zI i173)), (8, .int (zI (S135 14 (((30 * i135) + i5).toNat)))), (6, .int (zI z80)), (5, .int (zI r22)), (4, .int (zI i5)), (3, .int (zI d5)), (0, .ref o), (1, .int (zI eqs)), (2, .int (zI many))]) hX0 hB0 dX12_solves_234 hl (k := 2) rfl (zI_add _ _) (by decide) rfl (fun ls hl => ?_)
                                  refine lv_goto (tgt := 135) hX0 hB0 dX12_solves_237 (by decide) ?_
                                  exact ih135 (i135 + 1) S173 ⟨⟨by omega, by omega⟩, (zfor_s _ _ _ (by omega)).trans ((congrArg (zm_solves_L135 many i5 d5 i135) hz135).trans (by unfold zm_solves_L135; exact zif_f c_159 (zif_f c_164 (zlet_e e173 rfl)))), hI173, fun kk ii hk => ((hf173 kk ii (by omega))).trans (hf135 kk ii (by omega))⟩ (by omega) H locs ls hW (lv_sub hl [0, 3, 4, 5, 6, 7, 8, 9] rfl)
                                ·
                                  refine lv_aload_n hX0 hB0 dX12_solves_179 rfl (lv_at hl 7 rfl) ?_
                                  refine z_get (Cn := RX12) (T := TX12) (N := 37) CX hW (v := .ref (o + 14)) zMO_0 rfl (fun w h => List.mem_cons_of_mem _ (List.mem_append_right _ h)) 28 (by decide) (List.mem_of_getElem? (i := 2) rfl) rfl rfl dX12_solves_180 ?_
                                  refine lv_bipush (v := zI 30) hX0 hB0 dX12_solves_183 (by decide) ?_
                                  refine lv_iload hX0 hB0 dX12_solves_185 (lv_at hl 2 rfl) ?_
                                  refine z_imul (z := 30 * i135) CX dX12_solves_187 rfl ?_
                                  refine lv_iload hX0 hB0 dX12_solves_188 (lv_at hl 0 rfl) ?_
                                  refine z_iadd (z := (30 * i135) + i173) CX dX12_solves_190 rfl ?_
                                  refine lv_aload_n hX0 hB0 dX12_solves_191 rfl (lv_at hl 7 rfl) ?_
                                  refine lv_aload_n hX0 hB0 dX12_solves_192 rfl (lv_at hl 7 rfl) ?_
                                  refine z_get (Cn := RX12) (T := TX12) (N := 37) CX hW (v := .ref (o + 14)) zMO_0 rfl (fun w h => List.mem_cons_of_mem _ (List.mem_append_right _ h)) 28 (by decide) (List.mem_of_getElem? (i := 2) rfl) rfl rfl dX12_solves_193 ?_
                                  refine lv_bipush (v := zI 30) hX0 hB0 dX12_solves_196 (by decide) ?_
                                  refine lv_iload hX0 hB0 dX12_solves_198 (lv_at hl 2 rfl) ?_
                                  refine z_imul (z := 30 * i135) CX dX12_solves_200 rfl ?_
                                  refine lv_iload hX0 hB0 dX12_solves_201 (lv_at hl 0 rfl) ?_
                                  refine z_iadd (z := (30 * i135) + i173) CX dX12_solves_203 rfl ?_
                                  refine z_iald (z := S173 14 (((30 * i135) + i173).toNat)) CX hW zMO_14 0 rfl (by refine ⟨?_, ?_, ?_⟩ <;> omega) rfl dX12_solves_204 ?_
                                  have hr204 := hI173.r14 (((30 * i135) + i173).toNat)
                                  refine z_i2l CX dX12_solves_205 (by constructor <;> omega) ?_
                                  refine lv_iload hX0 hB0 dX12_solves_206 (lv_at hl 1 rfl) ?_
                                  refine z_i2l CX dX12_solves_208 (by constructor <;> omega) ?_
                                  refine lv_aload_n hX0 hB0 dX12_solves_209 rfl (lv_at hl 7 rfl) ?_
                                  refine z_get (Cn := RX12) (T := TX12) (N := 37) CX hW (v := .ref (o + 14)) zMO_0 rfl (fun w h => List.mem_cons_of_mem _ (List.mem_append_right _ h)) 28 (by decide) (List.mem_of_getElem? (i := 2) rfl) rfl rfl dX12_solves_210 ?_
                                  refine lv_bipush (v := zI 30) hX0 hB0 dX12_solves_213 (by decide) ?_
                                  refine lv_iload_n hX0 hB0 dX12_solves_215 rfl (lv_at hl 6 rfl) ?_
                                  refine z_imul (z := 30 * d5) CX dX12_solves_216 rfl ?_
                                  refine lv_iload hX0 hB0 dX12_solves_217 (lv_at hl 0 rfl) ?_
                                  refine z_iadd (z := (30 * d5) + i173) CX dX12_solves_219 rfl ?_
                                  refine z_iald (z := S173 14 (((30 * d5) + i173).toNat)) CX hW zMO_14 0 rfl (by refine ⟨?_, ?_, ?_⟩ <;> omega) rfl dX12_solves_220 ?_
                                  have hr220 := hI173.r14 (((30 * d5) + i173).toNat)
                                  refine z_i2l CX dX12_solves_221 (by constructor <;> omega) ?_
                                  refine z_lmul (z := (S135 14 (((30 * i135) + i5).toNat)) * (S173 14 (((30 * d5) + i173).toNat))) CX dX12_solves_222 rfl ?_
                                  have hm222 := zbox_mul0 (a := S135 14 (((30 * i135) + i5).toNat)) (b := S173 14 (((30 * d5) + i173).toNat)) (A := 30) (B := 30) (by constructor <;> omega) (by constructor <;> omega) (C := 900) (by decide)
                                  refine z_lsub (z := (S173 14 (((30 * i135) + i173).toNat)) - ((S135 14 (((30 * i135) + i5).toNat)) * (S173 14 (((30 * d5) + i173).toNat)))) CX dX12_solves_223 rfl ?_
                                  refine z_calli hW (va_runV (C := RX12) (As := [.long (zL ((S173 14 (((30 * i135) + i173).toNat)) - ((S135 14 (((30 * i135) + i5).toNat)) * (S173 14 (((30 * d5) + i173).toNat)))))]) (rest := [.int (zI ((30 * i135) + i173)), .ref (o + 14)]) CX.fix (zk_modulo l o S173 ((S173 14 (((30 * i135) + i173).toNat)) - ((S135 14 (((30 * i135) + i5).toNat)) * (S173 14 (((30 * d5) + i173).toNat)))) hI173 (by constructor <;> omega)) (cwV 1 CX.fix.2.2.2.2 gX12_solves_X12_modulo rfl rfl rfl (by decide +kernel) ⟨Nat.le_of_ble_eq_true rfl, Nat.le_of_ble_eq_true rfl⟩) (z_preV CX hW (r := (RX12, TX12, 37)) zMO_0 rfl) rfl rfl hl.1 rfl (lv_room (Nat.le_of_ble_eq_true rfl)) dX12_solves_224 ⟨Nat.zero_le _, Nat.zero_le _⟩) (fun z224 gn H locs hok hW => ?_)
                                  obtain ⟨hz224, hg, hq224⟩ := hok
                                  rw [hg] at hW
                                  clear hg
                                  have e224 : zm_modulo S173 ((S173 14 (((30 * i135) + i173).toNat)) - ((S135 14 (((30 * i135) + i5).toNat)) * (S173 14 (((30 * d5) + i173).toNat)))) = z224 := hz224.symm
                                  clear hz224
                                  obtain ⟨S227, e227⟩ : ∃ q, za S173 14 (((30 * i135) + i173).toNat) z224 = q := ⟨_, rfl⟩
                                  refine z_iast CX hW zMO_14 0 rfl (by refine ⟨?_, ?_, ?_⟩ <;> omega) (g := zMO cI cJ o S227 f) (zMO_w14.trans (by rw [← e227]; rfl)) dX12_solves_227 (fun H locs hW => ?_)
                                  have hI227 : mI S227 := e227 ▸ hI173.w14 (by constructor <;> omega)
                                  have t227_10 : S227 0 10 = S173 0 10 := by rw [← e227]; exact za_ne (by omega)
                                  refine lv_iinc (v := zI (i173 + 1)) (lv' := [(9, .int (zI (i173 + 1))), (8, .int (zI (S135 14 (((30 * i135) + i5).toNat)))), (7, .int (zI i135)), (6, .int (zI z80)), (5, .int (zI r22)), (4, .int (zI i5)), (3, .int (zI d5)), (0, .ref o), (1, .int (zI eqs)), (2, .int (zI many))]) hX0 hB0 dX12_solves_228 hl (k := 0) rfl (zI_add _ _) (by decide) rfl (fun ls hl => ?_)
                                  refine lv_goto (tgt := 173) hX0 hB0 dX12_solves_231 (by decide) ?_
                                  exact ih173 (i173 + 1) S227 ⟨⟨by omega, by omega⟩, (zfor_s _ _ _ (by omega)).trans ((congrArg (zm_solves_L173 i5 d5 i135 S135 i173) hz173).trans (by unfold zm_solves_L173; exact zlet_e e224 (zlet_e e227 rfl))), hI227, fun kk ii hk => ((show S227 kk ii = S173 kk ii from by rw [← e227]; exact za_ne (by omega))).trans (hf173 kk ii (by omega))⟩ (by omega) H locs ls hW (lv_sub hl [0, 1, 2, 3, 4, 5, 6, 7, 8, 9] rfl)
                            exact hL173 _ 0 S135 ⟨⟨by omega, by omega⟩, zfor_0 _ _ _, hI135, fun kk ii hk => rfl⟩ (Nat.lt_succ_self _) H locs ls hW (lv_sub hl [0, 1, 2, 3, 4, 5, 6, 7, 8, 9] rfl)
                          ·
                            refine lv_goto (tgt := 234) hX0 hB0 dX12_solves_167 (by decide) ?_
                            refine lv_iinc (v := zI (i135 + 1)) (lv' := [(7, .int (zI (i135 + 1))), (8, .int (zI (S135 14 (((30 * i135) + i5).toNat)))), (6, .int (zI z80)), (5, .int (zI r22)), (4, .int (zI i5)), (3, .int (zI d5)), (0, .ref o), (1, .int (zI eqs)), (2, .int (zI many))]) hX0 hB0 dX12_solves_234 hl (k := 1) rfl (zI_add _ _) (by decide) rfl (fun ls hl => ?_)
                            refine lv_goto (tgt := 135) hX0 hB0 dX12_solves_237 (by decide) ?_
                            exact ih135 (i135 + 1) S135 ⟨⟨by omega, by omega⟩, (zfor_s _ _ _ (by omega)).trans ((congrArg (zm_solves_L135 many i5 d5 i135) hz135).trans (by unfold zm_solves_L135; exact zif_f c_159 (zif_t c_164 rfl))), hI135, fun kk ii hk => (hf135 kk ii (by omega))⟩ (by omega) H locs ls hW (lv_sub hl [0, 2, 3, 4, 5, 6, 7, 8] rfl)
                  exact hL135 _ 0 S88 ⟨⟨by omega, by omega⟩, zfor_0 _ _ _, hI88, fun kk ii hk => rfl⟩ (Nat.lt_succ_self _) H locs ls hW (lv_sub hl [0, 1, 2, 3, 4, 5, 6, 7] rfl)
                ·
                  refine lv_aload_n hX0 hB0 dX12_solves_94 rfl (lv_at hl 5 rfl) ?_
                  refine z_get (Cn := RX12) (T := TX12) (N := 37) CX hW (v := .ref (o + 14)) zMO_0 rfl (fun w h => List.mem_cons_of_mem _ (List.mem_append_right _ h)) 28 (by decide) (List.mem_of_getElem? (i := 2) rfl) rfl rfl dX12_solves_95 ?_
                  refine lv_bipush (v := zI 30) hX0 hB0 dX12_solves_98 (by decide) ?_
                  refine lv_iload_n hX0 hB0 dX12_solves_100 rfl (lv_at hl 4 rfl) ?_
                  refine z_imul (z := 30 * d5) CX dX12_solves_101 rfl ?_
                  refine lv_iload hX0 hB0 dX12_solves_102 (lv_at hl 0 rfl) ?_
                  refine z_iadd (z := (30 * d5) + i88) CX dX12_solves_104 rfl ?_
                  refine lv_aload_n hX0 hB0 dX12_solves_105 rfl (lv_at hl 5 rfl) ?_
                  refine z_get (Cn := RX12) (T := TX12) (N := 37) CX hW (v := .ref (o + 14)) zMO_0 rfl (fun w h => List.mem_cons_of_mem _ (List.mem_append_right _ h)) 28 (by decide) (List.mem_of_getElem? (i := 2) rfl) rfl rfl dX12_solves_106 ?_
                  refine lv_bipush (v := zI 30) hX0 hB0 dX12_solves_109 (by decide) ?_
                  refine lv_iload_n hX0 hB0 dX12_solves_111 rfl (lv_at hl 4 rfl) ?_
                  refine z_imul (z := 30 * d5) CX dX12_solves_112 rfl ?_
                  refine lv_iload hX0 hB0 dX12_solves_113 (lv_at hl 0 rfl) ?_
                  refine z_iadd (z := (30 * d5) + i88) CX dX12_solves_115 rfl ?_
                  refine z_iald (z := S88 14 (((30 * d5) + i88).toNat)) CX hW zMO_14 0 rfl (by refine ⟨?_, ?_, ?_⟩ <;> omega) rfl dX12_solves_116 ?_
                  have hr116 := hI88.r14 (((30 * d5) + i88).toNat)
                  refine lv_iload hX0 hB0 dX12_solves_117 (lv_at hl 1 rfl) ?_
                  refine z_imul (z := (S88 14 (((30 * d5) + i88).toNat)) * z80) CX dX12_solves_119 rfl ?_
                  have hm119 := zbox_mul0 (a := S88 14 (((30 * d5) + i88).toNat)) (b := z80) (A := 30) (B := 30) (by constructor <;> omega) (by constructor <;> omega) (C := 900) (by decide)
                  refine lv_aload_n hX0 hB0 dX12_solves_120 rfl (lv_at hl 5 rfl) ?_
                  refine z_get (Cn := RX12) (T := TX12) (N := 37) CX hW (v := .int (zI (S88 0 10))) zMO_0 rfl (fun w h => List.mem_cons_of_mem _ (List.mem_append_right _ h)) 10 (by decide) (List.mem_of_getElem? (i := 3) rfl) rfl rfl dX12_solves_121 ?_
                  have hr121 := hI88.s10
                  refine z_irem (z := Int.tmod ((S88 14 (((30 * d5) + i88).toNat)) * z80) (S88 0 10)) CX dX12_solves_124 (by constructor <;> omega) (by constructor <;> omega) rfl ?_
                  have ht124 := ztm0 (n := (S88 14 (((30 * d5) + i88).toNat)) * z80) (p := S88 0 10) (by omega) (by omega)
                  obtain ⟨S125, e125⟩ : ∃ q, za S88 14 (((30 * d5) + i88).toNat) (Int.tmod ((S88 14 (((30 * d5) + i88).toNat)) * z80) (S88 0 10)) = q := ⟨_, rfl⟩
                  refine z_iast CX hW zMO_14 0 rfl (by refine ⟨?_, ?_, ?_⟩ <;> omega) (g := zMO cI cJ o S125 f) (zMO_w14.trans (by rw [← e125]; rfl)) dX12_solves_125 (fun H locs hW => ?_)
                  have hI125 : mI S125 := e125 ▸ hI88.w14 (by constructor <;> omega)
                  have t125_10 : S125 0 10 = S88 0 10 := by rw [← e125]; exact za_ne (by omega)
                  refine lv_iinc (v := zI (i88 + 1)) (lv' := [(7, .int (zI (i88 + 1))), (6, .int (zI z80)), (5, .int (zI r22)), (4, .int (zI i5)), (3, .int (zI d5)), (0, .ref o), (1, .int (zI eqs)), (2, .int (zI many))]) hX0 hB0 dX12_solves_126 hl (k := 0) rfl (zI_add _ _) (by decide) rfl (fun ls hl => ?_)
                  refine lv_goto (tgt := 88) hX0 hB0 dX12_solves_129 (by decide) ?_
                  exact ih88 (i88 + 1) S125 ⟨⟨by omega, by omega⟩, (zfor_s _ _ _ (by omega)).trans ((congrArg (zm_solves_L88 d5 z80 i88) hz88).trans (by unfold zm_solves_L88; exact zlet_e e125 rfl)), hI125, fun kk ii hk => ((show S125 kk ii = S88 kk ii from by rw [← e125]; exact za_ne (by omega))).trans (hf88 kk ii (by omega))⟩ (by omega) H locs ls hW (lv_sub hl [0, 1, 2, 3, 4, 5, 6, 7] rfl)
            exact hL88 _ 0 S64 ⟨⟨by omega, by omega⟩, zfor_0 _ _ _, hI64, fun kk ii hk => rfl⟩ (Nat.lt_succ_self _) H locs ls hW (lv_sub hl [0, 1, 2, 3, 4, 5, 6, 7] rfl)
          ·
            refine lv_goto (tgt := 251) hX0 hB0 dX12_solves_56 (by decide) ?_
            refine lv_iinc (v := zI (i5 + 1)) (lv' := [(4, .int (zI (i5 + 1))), (5, .int (zI r22)), (3, .int (zI d5)), (0, .ref o), (1, .int (zI eqs)), (2, .int (zI many))]) hX0 hB0 dX12_solves_251 hl (k := 1) rfl (zI_add _ _) (by decide) rfl (fun ls hl => ?_)
            refine lv_goto (tgt := 5) hX0 hB0 dX12_solves_254 (by decide) ?_
            exact ih5 (i5 + 1) d5 S18 ⟨⟨by omega, by omega⟩, (zfor_s _ _ _ (by omega)).trans ((congrArg (zm_solves_L5 eqs many i5) hz5).trans (by unfold zm_solves_L5; exact zlet_e e18 (zlet_e e22 (zif_t c_53 rfl)))), hI18, fun kk ii hk => ((show S18 kk ii = S5 kk ii from by rw [← e18]; exact za_ne (by omega))).trans (hf5 kk ii (by omega)), by omega, by omega, by omega⟩ (by omega) H locs ls hW (lv_sub hl [0, 2, 3, 4, 5] rfl)
        have hL22 : ∀ (fu : Nat) (r22 : Int), (zm_solves_W22 eqs i5 S18 ((47 : Nat)) d5 = zm_solves_W22 eqs i5 S18 fu r22 ∧ 0 ≤ r22 ∧ r22 ≤ 45 ∧ (d5 ≤ r22 ∧ r22 ≤ eqs)) → (46 - r22).toNat < fu → ∀ (H : Heap) (locs : List Loc) (ls : Array Slot), zW D (zT cI cJ cZ cP cS cM) L (zQ L sz) st (zMO cI cJ o S18 f) st.heap H locs → lv_has ls 10 [(5, .int (zI r22)), (4, .int (zI i5)), (3, .int (zI d5)), (0, .ref o), (1, .int (zI eqs)), (2, .int (zI many))] → W pg l en ({ frames := 3, cells := 0, slots := 0, locals := 70 } : Room) st mi ag bl mt cd H locs 0 0 Q (F0 mi 22 ls []) := by
          intro fu
          induction fu with
          | zero => intro r22 _ hfu; exact absurd hfu (Nat.not_lt_zero _)
          | succ fu ih22 =>
            intro r22 hinv hfu22 H locs ls hW hl
            obtain ⟨hz22, har22, hbr22, hv22⟩ := hinv
            refine lv_iload hX0 hB0 dX12_solves_22 (lv_at hl 0 rfl) ?_
            refine lv_iload_n hX0 hB0 dX12_solves_24 rfl (lv_at hl 4 rfl) ?_
            refine z_icmp_ge (tgt := 50) CX dX12_solves_25 (by decide) (by constructor <;> omega) (by constructor <;> omega) (fun c_25 => ?_) (fun c_25 => ?_)
            ·
              exact hXt22 r22 ⟨hz22.trans (by rw [zm_solves_W22]; exact zif_t c_25 rfl), by omega, by omega, ⟨by omega, by omega⟩⟩ H locs ls hW (lv_sub hl [0, 1, 2, 3, 4, 5] rfl)
            ·
              have d_25 : ¬ eqs ≤ r22 := by omega
              refine lv_aload_n hX0 hB0 dX12_solves_28 rfl (lv_at hl 3 rfl) ?_
              refine z_get (Cn := RX12) (T := TX12) (N := 37) CX hW (v := .ref (o + 14)) zMO_0 rfl (fun w h => List.mem_cons_of_mem _ (List.mem_append_right _ h)) 28 (by decide) (List.mem_of_getElem? (i := 2) rfl) rfl rfl dX12_solves_29 ?_
              refine lv_bipush (v := zI 30) hX0 hB0 dX12_solves_32 (by decide) ?_
              refine lv_iload hX0 hB0 dX12_solves_34 (lv_at hl 0 rfl) ?_
              refine z_imul (z := 30 * r22) CX dX12_solves_36 rfl ?_
              refine lv_iload hX0 hB0 dX12_solves_37 (lv_at hl 1 rfl) ?_
              refine z_iadd (z := (30 * r22) + i5) CX dX12_solves_39 rfl ?_
              refine z_iald (z := S18 14 (((30 * r22) + i5).toNat)) CX hW zMO_14 0 rfl (by refine ⟨?_, ?_, ?_⟩ <;> omega) rfl dX12_solves_40 ?_
              have hr40 := hI18.r14 (((30 * r22) + i5).toNat)
              refine z_if_ne (tgt := 50) CX dX12_solves_41 (by decide) (by constructor <;> omega) (fun c_41 => ?_) (fun c_41 => ?_)
              ·
                exact hXt22 r22 ⟨hz22.trans (by rw [zm_solves_W22]; exact zif_f d_25 (zif_f c_41 rfl)), by omega, by omega, ⟨by omega, by omega⟩⟩ H locs ls hW (lv_sub hl [0, 1, 2, 3, 4, 5] rfl)
              ·
                refine lv_iinc (v := zI (r22 + 1)) (lv' := [(5, .int (zI (r22 + 1))), (4, .int (zI i5)), (3, .int (zI d5)), (0, .ref o), (1, .int (zI eqs)), (2, .int (zI many))]) hX0 hB0 dX12_solves_44 hl (k := 0) rfl (zI_add _ _) (by decide) rfl (fun ls hl => ?_)
                refine lv_goto (tgt := 22) hX0 hB0 dX12_solves_47 (by decide) ?_
                exact ih22 (r22 + 1) ⟨hz22.trans (by rw [zm_solves_W22]; exact zif_f d_25 (zif_t c_41 rfl)), by omega, by omega, ⟨by omega, by omega⟩⟩ (by omega) H locs ls hW (lv_sub hl [0, 1, 2, 3, 4, 5] rfl)
        exact hL22 _ d5 ⟨rfl, by omega, by omega, ⟨by omega, by omega⟩⟩ (by omega) H locs ls hW (lv_sub hl [0, 1, 2, 3, 4, 5] rfl)
  exact hL5 _ 0 0 S ⟨⟨by omega, by omega⟩, zfor_0 _ _ _, hI, fun kk ii hk => rfl, by omega, by omega, by omega⟩ (Nat.lt_succ_self _) H locs ls hW (lv_sub hl [0, 1, 2, 3, 4] rfl)
def zm_addsUnknowns_L33 (from_ : Int) (g : Int) (by_ : Int) (i3 : Int) (i12 : Int) (i24 : Int) : Int → zS2 → zS2 := fun i33 s33 => (fun (S33 : zS2) => zlet (zm_termAt (i3 + i24) (i12 + i33)) (fun z54 => zlet (zm_termAt i3 i12) (fun z64 => zlet (zm_cell S33 g i24 i33) (fun z93 => zlet (zm_modulo S33 ((S33 14 ((((30 * z54) + from_) + z64).toNat)) + (by_ * z93))) (fun z99 => zlet (za S33 14 ((((30 * z54) + from_) + z64).toNat) z99) (fun S102 => S102)))))) s33
def zm_addsUnknowns_L24 (from_ : Int) (g : Int) (by_ : Int) (i3 : Int) (i12 : Int) : Int → zS2 → zS2 := fun i24 s24 => (fun (S24 : zS2) => zlet (zfor (zm_addsUnknowns_L33 from_ g by_ i3 i12 i24) 0 S24 ((4 - i24) + 1 - 0).toNat) (fun S33 => S33)) s24
def zm_addsUnknowns_L12 (from_ : Int) (g : Int) (by_ : Int) (i3 : Int) : Int → zS2 → zS2 := fun i12 s12 => (fun (S12 : zS2) => zlet (zfor (zm_addsUnknowns_L24 from_ g by_ i3 i12) 0 S12 (4 + 1 - 0 : Int).toNat) (fun S24 => S24)) s12
def zm_addsUnknowns_L3 (from_ : Int) (dg : Int) (g : Int) (by_ : Int) : Int → zS2 → zS2 := fun i3 s3 => (fun (S3 : zS2) => zlet (zfor (zm_addsUnknowns_L12 from_ g by_ i3) 0 S3 ((dg - i3) + 1 - 0).toNat) (fun S12 => S12)) s3
def zm_addsUnknowns (S : zS2) (from_ : Int) (dg : Int) (g : Int) (by_ : Int) : zS2 := zlet (zfor (zm_addsUnknowns_L3 from_ dg g by_) 0 S (dg + 1 - 0).toNat) (fun S3 => S3)
set_option maxRecDepth 100000 in
set_option maxHeartbeats 4000000 in
theorem zk_addsUnknowns (l : Launch) {D : va_G} {cI cJ cZ cP cS cM : ClassId} {L : List Nat} {sz : Nat} {f : Nat → va_E} (o : Nat) (S : zS2) (from_ : Int) (dg : Int) (g : Int) (by_ : Int) (hI : mI S) (hfrom_ : 0 ≤ from_ ∧ from_ ≤ 15) (hdg : 0 ≤ dg ∧ dg ≤ 4) (hg : 0 ≤ g ∧ g ≤ 238) (hby_ : -1 ≤ by_ ∧ by_ ≤ 1) : zMv l yX12_addsUnknowns wsX12_addsUnknowns 1 24 D (zT cI cJ cZ cP cS cM) L sz (zMO cI cJ o S f) [.ref o, .int (zI from_), .int (zI dg), .int (zI g), .long (zL by_)] (fun gv => gv = zMO cI cJ o (zm_addsUnknowns S from_ dg g by_) f ∧ mI (zm_addsUnknowns S from_ dg g by_) ∧ (∀ kk ii : Nat, ¬ kk = 14 → (zm_addsUnknowns S from_ dg g by_) kk ii = S kk ii) ∧ True) := by
  refine zWalk.met (nL := 11) (ret := none) (cc := cX12_addsUnknowns) (by decide) rfl (Nat.le_of_ble_eq_true rfl) ?_
  intro pg en st mi ag bl mt cd ls CX hW hl
  have CX : zC pg st mi ag mt cd cX12_addsUnknowns 11 none RX12 wsX12_addsUnknowns := CX
  generalize hQ : MQ bl _ ag st 0 0 _ = Q
  have hX0 := CX.1
  have hB0 := CX.2.1
  have hl : lv_has ls 11 [(0, .ref o), (1, .int (zI from_)), (2, .int (zI dg)), (3, .int (zI g)), (4, .long (zL by_))] := hl
  obtain ⟨H, eH⟩ : ∃ H, H = st.heap := ⟨_, rfl⟩
  obtain ⟨locs, eL⟩ : ∃ L : List Loc, L = [] := ⟨_, rfl⟩
  have hW : zW D (zT cI cJ cZ cP cS cM) L (zQ L sz) st (zMO cI cJ o S f) st.heap H locs := by rw [eH, eL]; exact hW
  suffices hgo : W pg l en ({ frames := 1, cells := 0, slots := 0, locals := 24 } : Room) st mi ag bl mt cd H locs 0 0 Q (F0 mi 0 ls []) by rw [eH, eL] at hgo; exact hgo
  clear eH eL
  have hpb := hI.s10
  refine lv_iconst (v := zI 0) hX0 hB0 dX12_addsUnknowns_0 rfl ?_
  refine lv_istore (lv' := [(6, .int (zI 0)), (0, .ref o), (1, .int (zI from_)), (2, .int (zI dg)), (3, .int (zI g)), (4, .long (zL by_))]) hX0 hB0 dX12_addsUnknowns_1 hl (by decide) rfl (fun ls hl => ?_)
  have hL3 : ∀ (fu : Nat) (i3 : Int) (S3 : zS2), ((0 ≤ i3 ∧ i3 ≤ dg + 1) ∧ zfor (zm_addsUnknowns_L3 from_ dg g by_) 0 S (i3 - 0).toNat = S3 ∧ mI S3 ∧ (∀ kk ii : Nat, ¬ kk = 14 → S3 kk ii = S kk ii)) → (dg + 1 - i3).toNat < fu → ∀ (H : Heap) (locs : List Loc) (ls : Array Slot), zW D (zT cI cJ cZ cP cS cM) L (zQ L sz) st (zMO cI cJ o S3 f) st.heap H locs → lv_has ls 11 [(6, .int (zI i3)), (0, .ref o), (1, .int (zI from_)), (2, .int (zI dg)), (3, .int (zI g)), (4, .long (zL by_))] → W pg l en ({ frames := 1, cells := 0, slots := 0, locals := 24 } : Room) st mi ag bl mt cd H locs 0 0 Q (F0 mi 3 ls []) := by
    intro fu
    induction fu with
    | zero => intro i3 S3 _ hfu; exact absurd hfu (Nat.not_lt_zero _)
    | succ fu ih3 =>
      intro i3 S3 hinv hfu3 H locs ls hW hl
      obtain ⟨⟨hlo3, hhi3⟩, hz3, hI3, hf3⟩ := hinv
      have hp3 := hI3.s10
      refine lv_iload hX0 hB0 dX12_addsUnknowns_3 (lv_at hl 0 rfl) ?_
      refine lv_iload_n hX0 hB0 dX12_addsUnknowns_5 rfl (lv_at hl 3 rfl) ?_
      refine z_icmp_gt (tgt := 127) CX dX12_addsUnknowns_6 (by decide) (by constructor <;> omega) (by constructor <;> omega) (fun c_6 => ?_) (fun c_6 => ?_)
      ·
        have e3 : zfor (zm_addsUnknowns_L3 from_ dg g by_) 0 S (dg + 1 - 0).toNat = S3 := by rw [show (dg + 1 - 0).toNat = (i3 - 0).toNat by omega]; exact hz3
        have hE : zm_addsUnknowns S from_ dg g by_ = S3 := by unfold zm_addsUnknowns; exact zlet_e e3 rfl
        have hFr : ∀ kk ii : Nat, ¬ kk = 14 → S3 kk ii = S kk ii := fun kk ii hk => (hf3 kk ii (by omega))
        rw [← hQ]
        exact z_vret CX hW (by rw [hE]; exact ⟨rfl, hI3, hFr, trivial⟩) dX12_addsUnknowns_127
      ·
        refine lv_iconst (v := zI 0) hX0 hB0 dX12_addsUnknowns_9 rfl ?_
        refine lv_istore (lv' := [(7, .int (zI 0)), (6, .int (zI i3)), (0, .ref o), (1, .int (zI from_)), (2, .int (zI dg)), (3, .int (zI g)), (4, .long (zL by_))]) hX0 hB0 dX12_addsUnknowns_10 hl (by decide) rfl (fun ls hl => ?_)
        have hL12 : ∀ (fu : Nat) (i12 : Int) (S12 : zS2), ((0 ≤ i12 ∧ i12 ≤ dg - i3 + 1) ∧ zfor (zm_addsUnknowns_L12 from_ g by_ i3) 0 S3 (i12 - 0).toNat = S12 ∧ mI S12 ∧ (∀ kk ii : Nat, ¬ kk = 14 → S12 kk ii = S3 kk ii)) → ((dg - i3) + 1 - i12).toNat < fu → ∀ (H : Heap) (locs : List Loc) (ls : Array Slot), zW D (zT cI cJ cZ cP cS cM) L (zQ L sz) st (zMO cI cJ o S12 f) st.heap H locs → lv_has ls 11 [(7, .int (zI i12)), (6, .int (zI i3)), (0, .ref o), (1, .int (zI from_)), (2, .int (zI dg)), (3, .int (zI g)), (4, .long (zL by_))] → W pg l en ({ frames := 1, cells := 0, slots := 0, locals := 24 } : Room) st mi ag bl mt cd H locs 0 0 Q (F0 mi 12 ls []) := by
          intro fu
          induction fu with
          | zero => intro i12 S12 _ hfu; exact absurd hfu (Nat.not_lt_zero _)
          | succ fu ih12 =>
            intro i12 S12 hinv hfu12 H locs ls hW hl
            obtain ⟨⟨hlo12, hhi12⟩, hz12, hI12, hf12⟩ := hinv
            have hp12 := hI12.s10
            refine lv_iload hX0 hB0 dX12_addsUnknowns_12 (lv_at hl 1 rfl) ?_
            refine lv_iload hX0 hB0 dX12_addsUnknowns_14 (lv_at hl 0 rfl) ?_
            refine z_iadd (z := i3 + i12) CX dX12_addsUnknowns_16 rfl ?_
            refine lv_iload_n hX0 hB0 dX12_addsUnknowns_17 rfl (lv_at hl 4 rfl) ?_
            refine z_icmp_gt (tgt := 121) CX dX12_addsUnknowns_18 (by decide) (by constructor <;> omega) (by constructor <;> omega) (fun c_18 => ?_) (fun c_18 => ?_)
            ·
              have e12 : zfor (zm_addsUnknowns_L12 from_ g by_ i3) 0 S3 ((dg - i3) + 1 - 0).toNat = S12 := by rw [show ((dg - i3) + 1 - 0).toNat = (i12 - 0).toNat by omega]; exact hz12
              refine lv_iinc (v := zI (i3 + 1)) (lv' := [(6, .int (zI (i3 + 1))), (7, .int (zI i12)), (0, .ref o), (1, .int (zI from_)), (2, .int (zI dg)), (3, .int (zI g)), (4, .long (zL by_))]) hX0 hB0 dX12_addsUnknowns_121 hl (k := 1) rfl (zI_add _ _) (by decide) rfl (fun ls hl => ?_)
              refine lv_goto (tgt := 3) hX0 hB0 dX12_addsUnknowns_124 (by decide) ?_
              exact ih3 (i3 + 1) S12 ⟨⟨by omega, by omega⟩, (zfor_s _ _ _ (by omega)).trans ((congrArg (zm_addsUnknowns_L3 from_ dg g by_ i3) hz3).trans (by unfold zm_addsUnknowns_L3; exact zlet_e e12 rfl)), hI12, fun kk ii hk => ((hf12 kk ii (by omega))).trans (hf3 kk ii (by omega))⟩ (by omega) H locs ls hW (lv_sub hl [0, 2, 3, 4, 5, 6] rfl)
            ·
              refine lv_iconst (v := zI 0) hX0 hB0 dX12_addsUnknowns_21 rfl ?_
              refine lv_istore (lv' := [(8, .int (zI 0)), (7, .int (zI i12)), (6, .int (zI i3)), (0, .ref o), (1, .int (zI from_)), (2, .int (zI dg)), (3, .int (zI g)), (4, .long (zL by_))]) hX0 hB0 dX12_addsUnknowns_22 hl (by decide) rfl (fun ls hl => ?_)
              have hL24 : ∀ (fu : Nat) (i24 : Int) (S24 : zS2), ((0 ≤ i24 ∧ i24 ≤ 4 + 1) ∧ zfor (zm_addsUnknowns_L24 from_ g by_ i3 i12) 0 S12 (i24 - 0).toNat = S24 ∧ mI S24 ∧ (∀ kk ii : Nat, ¬ kk = 14 → S24 kk ii = S12 kk ii)) → (4 + 1 - i24).toNat < fu → ∀ (H : Heap) (locs : List Loc) (ls : Array Slot), zW D (zT cI cJ cZ cP cS cM) L (zQ L sz) st (zMO cI cJ o S24 f) st.heap H locs → lv_has ls 11 [(8, .int (zI i24)), (7, .int (zI i12)), (6, .int (zI i3)), (0, .ref o), (1, .int (zI from_)), (2, .int (zI dg)), (3, .int (zI g)), (4, .long (zL by_))] → W pg l en ({ frames := 1, cells := 0, slots := 0, locals := 24 } : Room) st mi ag bl mt cd H locs 0 0 Q (F0 mi 24 ls []) := by
                intro fu
                induction fu with
                | zero => intro i24 S24 _ hfu; exact absurd hfu (Nat.not_lt_zero _)
                | succ fu ih24 =>
                  intro i24 S24 hinv hfu24 H locs ls hW hl
                  obtain ⟨⟨hlo24, hhi24⟩, hz24, hI24, hf24⟩ := hinv
                  have hp24 := hI24.s10
                  refine lv_iload hX0 hB0 dX12_addsUnknowns_24 (lv_at hl 0 rfl) ?_
                  refine lv_iconst (v := zI 4) hX0 hB0 dX12_addsUnknowns_26 rfl ?_
                  refine z_icmp_gt (tgt := 115) CX dX12_addsUnknowns_27 (by decide) (by constructor <;> omega) (by constructor <;> omega) (fun c_27 => ?_) (fun c_27 => ?_)
                  ·
                    have e24 : zfor (zm_addsUnknowns_L24 from_ g by_ i3 i12) 0 S12 (4 + 1 - 0 : Int).toNat = S24 := by rw [show (4 + 1 - 0 : Int).toNat = (i24 - 0).toNat by omega]; exact hz24
                    refine lv_iinc (v := zI (i12 + 1)) (lv' := [(7, .int (zI (i12 + 1))), (8, .int (zI i24)), (6, .int (zI i3)), (0, .ref o), (1, .int (zI from_)), (2, .int (zI dg)), (3, .int (zI g)), (4, .long (zL by_))]) hX0 hB0 dX12_addsUnknowns_115 hl (k := 1) rfl (zI_add _ _) (by decide) rfl (fun ls hl => ?_)
                    refine lv_goto (tgt := 12) hX0 hB0 dX12_addsUnknowns_118 (by decide) ?_
                    exact ih12 (i12 + 1) S24 ⟨⟨by omega, by omega⟩, (zfor_s _ _ _ (by omega)).trans ((congrArg (zm_addsUnknowns_L12 from_ g by_ i3 i12) hz12).trans (by unfold zm_addsUnknowns_L12; exact zlet_e e24 rfl)), hI24, fun kk ii hk => ((hf24 kk ii (by omega))).trans (hf12 kk ii (by omega))⟩ (by omega) H locs ls hW (lv_sub hl [0, 2, 3, 4, 5, 6, 7] rfl)
                  ·
                    refine lv_iconst (v := zI 0) hX0 hB0 dX12_addsUnknowns_30 rfl ?_
                    refine lv_istore (lv' := [(9, .int (zI 0)), (8, .int (zI i24)), (7, .int (zI i12)), (6, .int (zI i3)), (0, .ref o), (1, .int (zI from_)), (2, .int (zI dg)), (3, .int (zI g)), (4, .long (zL by_))]) hX0 hB0 dX12_addsUnknowns_31 hl (by decide) rfl (fun ls hl => ?_)
                    have hL33 : ∀ (fu : Nat) (i33 : Int) (S33 : zS2), ((0 ≤ i33 ∧ i33 ≤ 4 - i24 + 1) ∧ zfor (zm_addsUnknowns_L33 from_ g by_ i3 i12 i24) 0 S24 (i33 - 0).toNat = S33 ∧ mI S33 ∧ (∀ kk ii : Nat, ¬ kk = 14 → S33 kk ii = S24 kk ii)) → ((4 - i24) + 1 - i33).toNat < fu → ∀ (H : Heap) (locs : List Loc) (ls : Array Slot), zW D (zT cI cJ cZ cP cS cM) L (zQ L sz) st (zMO cI cJ o S33 f) st.heap H locs → lv_has ls 11 [(9, .int (zI i33)), (8, .int (zI i24)), (7, .int (zI i12)), (6, .int (zI i3)), (0, .ref o), (1, .int (zI from_)), (2, .int (zI dg)), (3, .int (zI g)), (4, .long (zL by_))] → W pg l en ({ frames := 1, cells := 0, slots := 0, locals := 24 } : Room) st mi ag bl mt cd H locs 0 0 Q (F0 mi 33 ls []) := by
                      intro fu
                      induction fu with
                      | zero => intro i33 S33 _ hfu; exact absurd hfu (Nat.not_lt_zero _)
                      | succ fu ih33 =>
                        intro i33 S33 hinv hfu33 H locs ls hW hl
                        obtain ⟨⟨hlo33, hhi33⟩, hz33, hI33, hf33⟩ := hinv
                        have hp33 := hI33.s10
                        refine lv_iload hX0 hB0 dX12_addsUnknowns_33 (lv_at hl 1 rfl) ?_
                        refine lv_iload hX0 hB0 dX12_addsUnknowns_35 (lv_at hl 0 rfl) ?_
                        refine z_iadd (z := i24 + i33) CX dX12_addsUnknowns_37 rfl ?_
                        refine lv_iconst (v := zI 4) hX0 hB0 dX12_addsUnknowns_38 rfl ?_
                        refine z_icmp_gt (tgt := 109) CX dX12_addsUnknowns_39 (by decide) (by constructor <;> omega) (by constructor <;> omega) (fun c_39 => ?_) (fun c_39 => ?_)
                        ·
                          have e33 : zfor (zm_addsUnknowns_L33 from_ g by_ i3 i12 i24) 0 S24 ((4 - i24) + 1 - 0).toNat = S33 := by rw [show ((4 - i24) + 1 - 0).toNat = (i33 - 0).toNat by omega]; exact hz33
                          refine lv_iinc (v := zI (i24 + 1)) (lv' := [(8, .int (zI (i24 + 1))), (9, .int (zI i33)), (7, .int (zI i12)), (6, .int (zI i3)), (0, .ref o), (1, .int (zI from_)), (2, .int (zI dg)), (3, .int (zI g)), (4, .long (zL by_))]) hX0 hB0 dX12_addsUnknowns_109 hl (k := 1) rfl (zI_add _ _) (by decide) rfl (fun ls hl => ?_)
                          refine lv_goto (tgt := 24) hX0 hB0 dX12_addsUnknowns_112 (by decide) ?_
                          exact ih24 (i24 + 1) S33 ⟨⟨by omega, by omega⟩, (zfor_s _ _ _ (by omega)).trans ((congrArg (zm_addsUnknowns_L24 from_ g by_ i3 i12 i24) hz24).trans (by unfold zm_addsUnknowns_L24; exact zlet_e e33 rfl)), hI33, fun kk ii hk => ((hf33 kk ii (by omega))).trans (hf24 kk ii (by omega))⟩ (by omega) H locs ls hW (lv_sub hl [0, 2, 3, 4, 5, 6, 7, 8] rfl)
                        ·
                          refine lv_bipush (v := zI 30) hX0 hB0 dX12_addsUnknowns_42 (by decide) ?_
                          refine lv_iload hX0 hB0 dX12_addsUnknowns_44 (lv_at hl 3 rfl) ?_
                          refine lv_iload hX0 hB0 dX12_addsUnknowns_46 (lv_at hl 1 rfl) ?_
                          refine z_iadd (z := i3 + i24) CX dX12_addsUnknowns_48 rfl ?_
                          refine lv_iload hX0 hB0 dX12_addsUnknowns_49 (lv_at hl 2 rfl) ?_
                          refine lv_iload hX0 hB0 dX12_addsUnknowns_51 (lv_at hl 0 rfl) ?_
                          refine z_iadd (z := i12 + i33) CX dX12_addsUnknowns_53 rfl ?_
                          refine z_calli hW (va_runS (As := [.int (zI (i3 + i24)), .int (zI (i12 + i33))]) (rest := [.int (zI 30)]) CX.fix (zk_termAt l (f := zMO cI cJ o S33 f) (i3 + i24) (i12 + i33) (by constructor <;> omega) (by constructor <;> omega) (by omega)) (va_cwS 2 CX.fix.2.2.2.2 gX12_addsUnknowns_X12_termAt rfl rfl rfl (by decide +kernel) ⟨Nat.le_of_ble_eq_true rfl, Nat.le_of_ble_eq_true rfl⟩) (z_preS CX hW) rfl rfl hl.1 rfl (lv_room (Nat.le_of_ble_eq_true rfl)) dX12_addsUnknowns_54 ⟨Nat.zero_le _, Nat.zero_le _⟩) (fun z54 gn H locs hok hW => ?_)
                          obtain ⟨hz54, hg, hq54⟩ := hok
                          rw [hg] at hW
                          clear hg
                          have e54 : zm_termAt (i3 + i24) (i12 + i33) = z54 := hz54.symm
                          clear hz54
                          refine z_imul (z := 30 * z54) CX dX12_addsUnknowns_57 rfl ?_
                          refine lv_iload_n hX0 hB0 dX12_addsUnknowns_58 rfl (lv_at hl 5 rfl) ?_
                          refine z_iadd (z := (30 * z54) + from_) CX dX12_addsUnknowns_59 rfl ?_
                          refine lv_iload hX0 hB0 dX12_addsUnknowns_60 (lv_at hl 3 rfl) ?_
                          refine lv_iload hX0 hB0 dX12_addsUnknowns_62 (lv_at hl 2 rfl) ?_
                          refine z_calli hW (va_runS (As := [.int (zI i3), .int (zI i12)]) (rest := [.int (zI ((30 * z54) + from_))]) CX.fix (zk_termAt l (f := zMO cI cJ o S33 f) i3 i12 (by constructor <;> omega) (by constructor <;> omega) (by omega)) (va_cwS 2 CX.fix.2.2.2.2 gX12_addsUnknowns_X12_termAt rfl rfl rfl (by decide +kernel) ⟨Nat.le_of_ble_eq_true rfl, Nat.le_of_ble_eq_true rfl⟩) (z_preS CX hW) rfl rfl hl.1 rfl (lv_room (Nat.le_of_ble_eq_true rfl)) dX12_addsUnknowns_64 ⟨Nat.zero_le _, Nat.zero_le _⟩) (fun z64 gn H locs hok hW => ?_)
                          obtain ⟨hz64, hg, hq64⟩ := hok
                          rw [hg] at hW
                          clear hg
                          have e64 : zm_termAt i3 i12 = z64 := hz64.symm
                          clear hz64
                          refine z_iadd (z := ((30 * z54) + from_) + z64) CX dX12_addsUnknowns_67 rfl ?_
                          refine lv_istore (lv' := [(10, .int (zI (((30 * z54) + from_) + z64))), (9, .int (zI i33)), (8, .int (zI i24)), (7, .int (zI i12)), (6, .int (zI i3)), (0, .ref o), (1, .int (zI from_)), (2, .int (zI dg)), (3, .int (zI g)), (4, .long (zL by_))]) hX0 hB0 dX12_addsUnknowns_68 hl (by decide) rfl (fun ls hl => ?_)
                          refine lv_aload_n hX0 hB0 dX12_addsUnknowns_70 rfl (lv_at hl 5 rfl) ?_
                          refine z_get (Cn := RX12) (T := TX12) (N := 37) CX hW (v := .ref (o + 14)) zMO_0 rfl (fun w h => List.mem_cons_of_mem _ (List.mem_append_right _ h)) 28 (by decide) (List.mem_of_getElem? (i := 1) rfl) rfl rfl dX12_addsUnknowns_71 ?_
                          refine lv_iload hX0 hB0 dX12_addsUnknowns_74 (lv_at hl 0 rfl) ?_
                          refine lv_aload_n hX0 hB0 dX12_addsUnknowns_76 rfl (lv_at hl 5 rfl) ?_
                          refine lv_aload_n hX0 hB0 dX12_addsUnknowns_77 rfl (lv_at hl 5 rfl) ?_
                          refine z_get (Cn := RX12) (T := TX12) (N := 37) CX hW (v := .ref (o + 14)) zMO_0 rfl (fun w h => List.mem_cons_of_mem _ (List.mem_append_right _ h)) 28 (by decide) (List.mem_of_getElem? (i := 1) rfl) rfl rfl dX12_addsUnknowns_78 ?_
                          refine lv_iload hX0 hB0 dX12_addsUnknowns_81 (lv_at hl 0 rfl) ?_
                          refine z_iald (z := S33 14 ((((30 * z54) + from_) + z64).toNat)) CX hW zMO_14 0 rfl (by refine ⟨?_, ?_, ?_⟩ <;> omega) rfl dX12_addsUnknowns_83 ?_
                          have hr83 := hI33.r14 ((((30 * z54) + from_) + z64).toNat)
                          refine z_i2l CX dX12_addsUnknowns_84 (by constructor <;> omega) ?_
                          refine lv_lload hX0 hB0 dX12_addsUnknowns_85 (lv_at hl 9 rfl) ?_
                          refine lv_aload_n hX0 hB0 dX12_addsUnknowns_87 rfl (lv_at hl 5 rfl) ?_
                          refine lv_iload_n hX0 hB0 dX12_addsUnknowns_88 rfl (lv_at hl 8 rfl) ?_
                          refine lv_iload hX0 hB0 dX12_addsUnknowns_89 (lv_at hl 2 rfl) ?_
                          refine lv_iload hX0 hB0 dX12_addsUnknowns_91 (lv_at hl 1 rfl) ?_
                          refine z_calli hW (va_runV (C := RX12) (As := [.int (zI g), .int (zI i24), .int (zI i33)]) (rest := [.long (zL by_), .long (zL (S33 14 ((((30 * z54) + from_) + z64).toNat))), .ref o, .int (zI (((30 * z54) + from_) + z64)), .ref (o + 14)]) CX.fix (zk_cell l o S33 g i24 i33 hI33 (by constructor <;> omega) (by constructor <;> omega) (by constructor <;> omega)) (cwV 3 CX.fix.2.2.2.2 gX12_addsUnknowns_X12_cell rfl rfl rfl (by decide +kernel) ⟨Nat.le_of_ble_eq_true rfl, Nat.le_of_ble_eq_true rfl⟩) (z_preV CX hW (r := (RX12, TX12, 37)) zMO_0 rfl) rfl rfl hl.1 rfl (lv_room (Nat.le_of_ble_eq_true rfl)) dX12_addsUnknowns_93 ⟨Nat.zero_le _, Nat.zero_le _⟩) (fun z93 gn H locs hok hW => ?_)
                          obtain ⟨hz93, hg, hq93⟩ := hok
                          rw [hg] at hW
                          clear hg
                          have e93 : zm_cell S33 g i24 i33 = z93 := hz93.symm
                          clear hz93
                          refine z_i2l CX dX12_addsUnknowns_96 (by constructor <;> omega) ?_
                          refine z_lmul (z := by_ * z93) CX dX12_addsUnknowns_97 rfl ?_
                          have hm97 := zbox_mul (a := by_) (b := z93) (A := 1) (B := 30) (by constructor <;> omega) (by constructor <;> omega) (C := 30) (by decide)
                          refine z_ladd (z := (S33 14 ((((30 * z54) + from_) + z64).toNat)) + (by_ * z93)) CX dX12_addsUnknowns_98 rfl ?_
                          refine z_calli hW (va_runV (C := RX12) (As := [.long (zL ((S33 14 ((((30 * z54) + from_) + z64).toNat)) + (by_ * z93)))]) (rest := [.int (zI (((30 * z54) + from_) + z64)), .ref (o + 14)]) CX.fix (zk_modulo l o S33 ((S33 14 ((((30 * z54) + from_) + z64).toNat)) + (by_ * z93)) hI33 (by constructor <;> omega)) (cwV 1 CX.fix.2.2.2.2 gX12_addsUnknowns_X12_modulo rfl rfl rfl (by decide +kernel) ⟨Nat.le_of_ble_eq_true rfl, Nat.le_of_ble_eq_true rfl⟩) (z_preV CX hW (r := (RX12, TX12, 37)) zMO_0 rfl) rfl rfl hl.1 rfl (lv_room (Nat.le_of_ble_eq_true rfl)) dX12_addsUnknowns_99 ⟨Nat.zero_le _, Nat.zero_le _⟩) (fun z99 gn H locs hok hW => ?_)
                          obtain ⟨hz99, hg, hq99⟩ := hok
                          rw [hg] at hW
                          clear hg
                          have e99 : zm_modulo S33 ((S33 14 ((((30 * z54) + from_) + z64).toNat)) + (by_ * z93)) = z99 := hz99.symm
                          clear hz99
                          obtain ⟨S102, e102⟩ : ∃ q, za S33 14 ((((30 * z54) + from_) + z64).toNat) z99 = q := ⟨_, rfl⟩
                          refine z_iast CX hW zMO_14 0 rfl (by refine ⟨?_, ?_, ?_⟩ <;> omega) (g := zMO cI cJ o S102 f) (zMO_w14.trans (by rw [← e102]; rfl)) dX12_addsUnknowns_102 (fun H locs hW => ?_)
                          have hI102 : mI S102 := e102 ▸ hI33.w14 (by constructor <;> omega)
                          refine lv_iinc (v := zI (i33 + 1)) (lv' := [(9, .int (zI (i33 + 1))), (10, .int (zI (((30 * z54) + from_) + z64))), (8, .int (zI i24)), (7, .int (zI i12)), (6, .int (zI i3)), (0, .ref o), (1, .int (zI from_)), (2, .int (zI dg)), (3, .int (zI g)), (4, .long (zL by_))]) hX0 hB0 dX12_addsUnknowns_103 hl (k := 1) rfl (zI_add _ _) (by decide) rfl (fun ls hl => ?_)
                          refine lv_goto (tgt := 33) hX0 hB0 dX12_addsUnknowns_106 (by decide) ?_
                          exact ih33 (i33 + 1) S102 ⟨⟨by omega, by omega⟩, (zfor_s _ _ _ (by omega)).trans ((congrArg (zm_addsUnknowns_L33 from_ g by_ i3 i12 i24 i33) hz33).trans (by unfold zm_addsUnknowns_L33; exact zlet_e e54 (zlet_e e64 (zlet_e e93 (zlet_e e99 (zlet_e e102 rfl)))))), hI102, fun kk ii hk => ((show S102 kk ii = S33 kk ii from by rw [← e102]; exact za_ne (by omega))).trans (hf33 kk ii (by omega))⟩ (by omega) H locs ls hW (lv_sub hl [0, 2, 3, 4, 5, 6, 7, 8, 9] rfl)
                    exact hL33 _ 0 S24 ⟨⟨by omega, by omega⟩, zfor_0 _ _ _, hI24, fun kk ii hk => rfl⟩ (Nat.lt_succ_self _) H locs ls hW (lv_sub hl [0, 1, 2, 3, 4, 5, 6, 7, 8] rfl)
              exact hL24 _ 0 S12 ⟨⟨by omega, by omega⟩, zfor_0 _ _ _, hI12, fun kk ii hk => rfl⟩ (Nat.lt_succ_self _) H locs ls hW (lv_sub hl [0, 1, 2, 3, 4, 5, 6, 7] rfl)
        exact hL12 _ 0 S3 ⟨⟨by omega, by omega⟩, zfor_0 _ _ _, hI3, fun kk ii hk => rfl⟩ (Nat.lt_succ_self _) H locs ls hW (lv_sub hl [0, 1, 2, 3, 4, 5, 6] rfl)
  exact hL3 _ 0 S ⟨⟨by omega, by omega⟩, zfor_0 _ _ _, hI, fun kk ii hk => rfl⟩ (Nat.lt_succ_self _) H locs ls hW (lv_sub hl [0, 1, 2, 3, 4, 5] rfl)
def zm_emptiesEquations_L2  : Int → zS2 → zS2 := fun i2 s2 => (fun (S2 : zS2) => zlet (za S2 14 i2.toNat 0) (fun S15 => S15)) s2
def zm_emptiesEquations (S : zS2)  : zS2 := zlet (zfor (zm_emptiesEquations_L2) 0 S (1349 + 1 - 0 : Int).toNat) (fun S2 => S2)
set_option maxRecDepth 100000 in
set_option maxHeartbeats 4000000 in
theorem zk_emptiesEquations (l : Launch) {D : va_G} {cI cJ cZ cP cS cM : ClassId} {L : List Nat} {sz : Nat} {f : Nat → va_E} (o : Nat) (S : zS2)  (hI : mI S)  : zMv l yX12_emptiesEquations wsX12_emptiesEquations 0 0 D (zT cI cJ cZ cP cS cM) L sz (zMO cI cJ o S f) [.ref o] (fun gv => gv = zMO cI cJ o (zm_emptiesEquations S) f ∧ mI (zm_emptiesEquations S) ∧ (∀ kk ii : Nat, ¬ kk = 14 → (zm_emptiesEquations S) kk ii = S kk ii) ∧ True) := by
  refine zWalk.met (nL := 2) (ret := none) (cc := cX12_emptiesEquations) (by decide) rfl (Nat.le_of_ble_eq_true rfl) ?_
  intro pg en st mi ag bl mt cd ls CX hW hl
  have CX : zC pg st mi ag mt cd cX12_emptiesEquations 2 none RX12 wsX12_emptiesEquations := CX
  generalize hQ : MQ bl _ ag st 0 0 _ = Q
  have hX0 := CX.1
  have hB0 := CX.2.1
  have hl : lv_has ls 2 [(0, .ref o)] := hl
  obtain ⟨H, eH⟩ : ∃ H, H = st.heap := ⟨_, rfl⟩
  obtain ⟨locs, eL⟩ : ∃ L : List Loc, L = [] := ⟨_, rfl⟩
  have hW : zW D (zT cI cJ cZ cP cS cM) L (zQ L sz) st (zMO cI cJ o S f) st.heap H locs := by rw [eH, eL]; exact hW
  suffices hgo : W pg l en ({ frames := 0, cells := 0, slots := 0, locals := 0 } : Room) st mi ag bl mt cd H locs 0 0 Q (F0 mi 0 ls []) by rw [eH, eL] at hgo; exact hgo
  clear eH eL
  have hpb := hI.s10
  refine lv_iconst (v := zI 0) hX0 hB0 dX12_emptiesEquations_0 rfl ?_
  refine lv_istore_n (lv' := [(1, .int (zI 0)), (0, .ref o)]) hX0 hB0 dX12_emptiesEquations_1 rfl hl (by decide) rfl (fun ls hl => ?_)
  have hL2 : ∀ (fu : Nat) (i2 : Int) (S2 : zS2), ((0 ≤ i2 ∧ i2 ≤ 1349 + 1) ∧ zfor (zm_emptiesEquations_L2) 0 S (i2 - 0).toNat = S2 ∧ mI S2 ∧ (∀ kk ii : Nat, ¬ kk = 14 → S2 kk ii = S kk ii)) → (1349 + 1 - i2).toNat < fu → ∀ (H : Heap) (locs : List Loc) (ls : Array Slot), zW D (zT cI cJ cZ cP cS cM) L (zQ L sz) st (zMO cI cJ o S2 f) st.heap H locs → lv_has ls 2 [(1, .int (zI i2)), (0, .ref o)] → W pg l en ({ frames := 0, cells := 0, slots := 0, locals := 0 } : Room) st mi ag bl mt cd H locs 0 0 Q (F0 mi 2 ls []) := by
    intro fu
    induction fu with
    | zero => intro i2 S2 _ hfu; exact absurd hfu (Nat.not_lt_zero _)
    | succ fu ih2 =>
      intro i2 S2 hinv hfu2 H locs ls hW hl
      obtain ⟨⟨hlo2, hhi2⟩, hz2, hI2, hf2⟩ := hinv
      have hp2 := hI2.s10
      refine lv_iload_n hX0 hB0 dX12_emptiesEquations_2 rfl (lv_at hl 0 rfl) ?_
      refine lv_sipush (v := zI 1350) hX0 hB0 dX12_emptiesEquations_3 (by decide) ?_
      refine z_icmp_ge (tgt := 22) CX dX12_emptiesEquations_6 (by decide) (by constructor <;> omega) (by constructor <;> omega) (fun c_6 => ?_) (fun c_6 => ?_)
      ·
        have e2 : zfor (zm_emptiesEquations_L2) 0 S (1349 + 1 - 0 : Int).toNat = S2 := by rw [show (1349 + 1 - 0 : Int).toNat = (i2 - 0).toNat by omega]; exact hz2
        have hE : zm_emptiesEquations S = S2 := by unfold zm_emptiesEquations; exact zlet_e e2 rfl
        have hFr : ∀ kk ii : Nat, ¬ kk = 14 → S2 kk ii = S kk ii := fun kk ii hk => (hf2 kk ii (by omega))
        rw [← hQ]
        exact z_vret CX hW (by rw [hE]; exact ⟨rfl, hI2, hFr, trivial⟩) dX12_emptiesEquations_22
      ·
        refine lv_aload_n hX0 hB0 dX12_emptiesEquations_9 rfl (lv_at hl 1 rfl) ?_
        refine z_get (Cn := RX12) (T := TX12) (N := 37) CX hW (v := .ref (o + 14)) zMO_0 rfl (fun w h => List.mem_cons_of_mem _ (List.mem_append_right _ h)) 28 (by decide) (List.mem_of_getElem? (i := 1) rfl) rfl rfl dX12_emptiesEquations_10 ?_
        refine lv_iload_n hX0 hB0 dX12_emptiesEquations_13 rfl (lv_at hl 0 rfl) ?_
        refine lv_iconst (v := zI 0) hX0 hB0 dX12_emptiesEquations_14 rfl ?_
        obtain ⟨S15, e15⟩ : ∃ q, za S2 14 i2.toNat 0 = q := ⟨_, rfl⟩
        refine z_iast CX hW zMO_14 0 rfl (by refine ⟨?_, ?_, ?_⟩ <;> omega) (g := zMO cI cJ o S15 f) (zMO_w14.trans (by rw [← e15]; rfl)) dX12_emptiesEquations_15 (fun H locs hW => ?_)
        have hI15 : mI S15 := e15 ▸ hI2.w14 (by constructor <;> omega)
        refine lv_iinc (v := zI (i2 + 1)) (lv' := [(1, .int (zI (i2 + 1))), (0, .ref o)]) hX0 hB0 dX12_emptiesEquations_16 hl (k := 0) rfl (zI_add _ _) (by decide) rfl (fun ls hl => ?_)
        refine lv_goto (tgt := 2) hX0 hB0 dX12_emptiesEquations_19 (by decide) ?_
        exact ih2 (i2 + 1) S15 ⟨⟨by omega, by omega⟩, (zfor_s _ _ _ (by omega)).trans ((congrArg (zm_emptiesEquations_L2 i2) hz2).trans (by unfold zm_emptiesEquations_L2; exact zlet_e e15 rfl)), hI15, fun kk ii hk => ((show S15 kk ii = S2 kk ii from by rw [← e15]; exact za_ne (by omega))).trans (hf2 kk ii (by omega))⟩ (by omega) H locs ls hW (lv_sub hl [0, 1] rfl)
  exact hL2 _ 0 S ⟨⟨by omega, by omega⟩, zfor_0 _ _ _, hI, fun kk ii hk => rfl⟩ (Nat.lt_succ_self _) H locs ls hW (lv_sub hl [0, 1] rfl)
end ZMm
