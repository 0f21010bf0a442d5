section ZMh
def zm_modulo (S : zS2) (v : Int) : Int := (if 0 ≤ Int.tmod v (S 0 10) then Int.tmod v (S 0 10) else (Int.tmod v (S 0 10)) + (S 0 10))
set_option maxRecDepth 100000 in
set_option maxHeartbeats 4000000 in
theorem zk_modulo (l : Launch) {D : va_G} {cI cJ cZ cP cS cM : ClassId} {L : List Nat} {sz : Nat} {f : Nat → va_E} (o : Nat) (S : zS2) (v : Int) (hI : mI S) (hv : -9223372036854775808 ≤ v ∧ v ≤ 9223372036854775807) : zMi l yX12_modulo wsX12_modulo 0 0 D (zT cI cJ cZ cP cS cM) L sz (zMO cI cJ o S f) [.ref o, .long (zL v)] (fun zv gv => zv = zm_modulo S v ∧ gv = zMO cI cJ o S f ∧ 0 ≤ zv ∧ zv < S 0 10) := by
  refine zWalk.met (nL := 5) (ret := (some .int)) (cc := cX12_modulo) (by decide) rfl (Nat.le_of_ble_eq_true rfl) ?_
  intro pg en st mi ag bl mt cd ls CX hW hl
  have CX : zC pg st mi ag mt cd cX12_modulo 5 (some .int) RX12 wsX12_modulo := CX
  generalize hQ : MQ bl _ ag st 0 0 _ = Q
  have hX0 := CX.1
  have hB0 := CX.2.1
  have hl : lv_has ls 5 [(0, .ref o), (1, .long (zL v))] := hl
  obtain ⟨H, eH⟩ : ∃ H, H = st.heap := ⟨_, rfl⟩
  obtain ⟨locs, eL⟩ : ∃ L : List Loc, L = [] := ⟨_, rfl⟩
  have hW : zW D (zT cI cJ cZ cP cS cM) L (zQ L sz) st (zMO cI cJ o S f) st.heap H locs := by rw [eH, eL]; exact hW
  suffices hgo : W pg l en ({ frames := 0, cells := 0, slots := 0, locals := 0 } : Room) st mi ag bl mt cd H locs 0 0 Q (F0 mi 0 ls []) by rw [eH, eL] at hgo; exact hgo
  clear eH eL
  have hpb := hI.s10
  refine lv_lload_n hX0 hB0 dX12_modulo_0 rfl (lv_at hl 1 rfl) ?_
  refine lv_aload_n hX0 hB0 dX12_modulo_1 rfl (lv_at hl 0 rfl) ?_
  refine z_get (Cn := RX12) (T := TX12) (N := 37) CX hW (v := .int (zI (S 0 10))) zMO_0 rfl (fun w h => List.mem_cons_of_mem _ (List.mem_append_right _ h)) 10 (by decide) (List.mem_of_getElem? (i := 1) rfl) rfl rfl dX12_modulo_2 ?_
  have hr2 := hI.s10
  refine z_i2l CX dX12_modulo_5 (by constructor <;> omega) ?_
  refine z_lrem (z := Int.tmod v (S 0 10)) CX dX12_modulo_6 (by constructor <;> omega) (by constructor <;> omega) rfl ?_
  have ht6 := ztm (n := v) (p := S 0 10) (by omega)
  refine lv_lstore_n (lv' := [(3, .long (zL (Int.tmod v (S 0 10)))), (0, .ref o), (1, .long (zL v))]) hX0 hB0 dX12_modulo_7 rfl hl (by decide) rfl (fun ls hl => ?_)
  refine lv_lload_n hX0 hB0 dX12_modulo_8 rfl (lv_at hl 0 rfl) ?_
  refine lv_lconst (v := zL 0) hX0 hB0 dX12_modulo_9 rfl ?_
  refine z_lcmp CX dX12_modulo_10 (by constructor <;> omega) (by constructor <;> omega) ?_
  have hcm10 := zcmp_rng (Int.tmod v (S 0 10)) 0
  refine z_if_ge (tgt := 24) CX dX12_modulo_11 (by decide) (by constructor <;> omega) (fun c_11 => ?_) (fun c_11 => ?_)
  ·
    simp only [zcmp_lt, zcmp_le, zcmp_gt, zcmp_ge, zcmp_eq] at c_11
    refine lv_lload_n hX0 hB0 dX12_modulo_24 rfl (lv_at hl 0 rfl) ?_
    refine z_l2i CX dX12_modulo_25 ?_
    have hE : zm_modulo S v = Int.tmod v (S 0 10) := by unfold zm_modulo; exact zif_t c_11 rfl
    rw [← hQ]
    exact z_iret (z := Int.tmod v (S 0 10)) CX hW (by rw [hE]; exact ⟨rfl, rfl, (show 0 ≤ (Int.tmod v (S 0 10)) ∧ (Int.tmod v (S 0 10)) < S 0 10 from by omega)⟩) rfl dX12_modulo_26
  ·
    simp only [zcmp_lt, zcmp_le, zcmp_gt, zcmp_ge, zcmp_eq] at c_11
    have d_11 : ¬ 0 ≤ Int.tmod v (S 0 10) := by omega
    refine lv_lload_n hX0 hB0 dX12_modulo_14 rfl (lv_at hl 0 rfl) ?_
    refine lv_aload_n hX0 hB0 dX12_modulo_15 rfl (lv_at hl 1 rfl) ?_
    refine z_get (Cn := RX12) (T := TX12) (N := 37) CX hW (v := .int (zI (S 0 10))) zMO_0 rfl (fun w h => List.mem_cons_of_mem _ (List.mem_append_right _ h)) 10 (by decide) (List.mem_of_getElem? (i := 1) rfl) rfl rfl dX12_modulo_16 ?_
    have hr16 := hI.s10
    refine z_i2l CX dX12_modulo_19 (by constructor <;> omega) ?_
    refine z_ladd (z := (Int.tmod v (S 0 10)) + (S 0 10)) CX dX12_modulo_20 rfl ?_
    refine lv_goto (tgt := 25) hX0 hB0 dX12_modulo_21 (by decide) ?_
    refine z_l2i CX dX12_modulo_25 ?_
    have hE : zm_modulo S v = (Int.tmod v (S 0 10)) + (S 0 10) := by unfold zm_modulo; exact zif_f d_11 rfl
    rw [← hQ]
    exact z_iret (z := (Int.tmod v (S 0 10)) + (S 0 10)) CX hW (by rw [hE]; exact ⟨rfl, rfl, (show 0 ≤ ((Int.tmod v (S 0 10)) + (S 0 10)) ∧ ((Int.tmod v (S 0 10)) + (S 0 10)) < S 0 10 from by omega)⟩) rfl dX12_modulo_26
def zm_power_L5 (S : zS2) (v : Int) : Int → Int → Int := fun i5 s5 => (fun (p5 : Int) => (Int.tmod (p5 * v) (S 0 10))) s5
def zm_power (S : zS2) (v : Int) (n : Int) : Int := zlet (zfor (zm_power_L5 S v) 0 1 ((n - 1) + 1 - 0).toNat) (fun p5 => zlet (zm_modulo S p5) (fun z30 => z30))
set_option maxRecDepth 100000 in
set_option maxHeartbeats 4000000 in
theorem zk_power (l : Launch) {D : va_G} {cI cJ cZ cP cS cM : ClassId} {L : List Nat} {sz : Nat} {f : Nat → va_E} (o : Nat) (S : zS2) (v : Int) (n : Int) (hI : mI S) (hv : -1000 ≤ v ∧ v ≤ 1000) (hn : 0 ≤ n ∧ n ≤ 100) : zMi l yX12_power wsX12_power 1 24 D (zT cI cJ cZ cP cS cM) L sz (zMO cI cJ o S f) [.ref o, .int (zI v), .int (zI n)] (fun zv gv => zv = zm_power S v n ∧ gv = zMO cI cJ o S f ∧ 0 ≤ zv ∧ zv < S 0 10) := by
  refine zWalk.met (nL := 6) (ret := (some .int)) (cc := cX12_power) (by decide) rfl (Nat.le_of_ble_eq_true rfl) ?_
  intro pg en st mi ag bl mt cd ls CX hW hl
  have CX : zC pg st mi ag mt cd cX12_power 6 (some .int) RX12 wsX12_power := CX
  generalize hQ : MQ bl _ ag st 0 0 _ = Q
  have hX0 := CX.1
  have hB0 := CX.2.1
  have hl : lv_has ls 6 [(0, .ref o), (1, .int (zI v)), (2, .int (zI n))] := hl
  obtain ⟨H, eH⟩ : ∃ H, H = st.heap := ⟨_, rfl⟩
  obtain ⟨locs, eL⟩ : ∃ L : List Loc, L = [] := ⟨_, rfl⟩
  have hW : zW D (zT cI cJ cZ cP cS cM) L (zQ L sz) st (zMO cI cJ o S f) st.heap H locs := by rw [eH, eL]; exact hW
  suffices hgo : W pg l en ({ frames := 1, cells := 0, slots := 0, locals := 24 } : Room) st mi ag bl mt cd H locs 0 0 Q (F0 mi 0 ls []) by rw [eH, eL] at hgo; exact hgo
  clear eH eL
  have hpb := hI.s10
  refine lv_lconst (v := zL 1) hX0 hB0 dX12_power_0 rfl ?_
  refine lv_lstore_n (lv' := [(3, .long (zL 1)), (0, .ref o), (1, .int (zI v)), (2, .int (zI n))]) hX0 hB0 dX12_power_1 rfl hl (by decide) rfl (fun ls hl => ?_)
  refine lv_iconst (v := zI 0) hX0 hB0 dX12_power_2 rfl ?_
  refine lv_istore (lv' := [(5, .int (zI 0)), (3, .long (zL 1)), (0, .ref o), (1, .int (zI v)), (2, .int (zI n))]) hX0 hB0 dX12_power_3 hl (by decide) rfl (fun ls hl => ?_)
  have hL5 : ∀ (fu : Nat) (i5 : Int) (p5 : Int), ((0 ≤ i5 ∧ i5 ≤ n - 1 + 1) ∧ zfor (zm_power_L5 S v) 0 1 (i5 - 0).toNat = p5 ∧ -30 ≤ p5 ∧ p5 ≤ 30) → ((n - 1) + 1 - i5).toNat < fu → ∀ (H : Heap) (locs : List Loc) (ls : Array Slot), zW D (zT cI cJ cZ cP cS cM) L (zQ L sz) st (zMO cI cJ o S f) st.heap H locs → lv_has ls 6 [(5, .int (zI i5)), (3, .long (zL p5)), (0, .ref o), (1, .int (zI v)), (2, .int (zI n))] → W pg l en ({ frames := 1, cells := 0, slots := 0, locals := 24 } : Room) st mi ag bl mt cd H locs 0 0 Q (F0 mi 5 ls []) := by
    intro fu
    induction fu with
    | zero => intro i5 p5 _ hfu; exact absurd hfu (Nat.not_lt_zero _)
    | succ fu ih5 =>
      intro i5 p5 hinv hfu5 H locs ls hW hl
      obtain ⟨⟨hlo5, hhi5⟩, hz5, hap5, hbp5⟩ := hinv
      refine lv_iload hX0 hB0 dX12_power_5 (lv_at hl 0 rfl) ?_
      refine lv_iload_n hX0 hB0 dX12_power_7 rfl (lv_at hl 4 rfl) ?_
      refine z_icmp_ge (tgt := 28) CX dX12_power_8 (by decide) (by constructor <;> omega) (by constructor <;> omega) (fun c_8 => ?_) (fun c_8 => ?_)
      ·
        have e5 : zfor (zm_power_L5 S v) 0 1 ((n - 1) + 1 - 0).toNat = p5 := by rw [show ((n - 1) + 1 - 0).toNat = (i5 - 0).toNat by omega]; exact hz5
        refine lv_aload_n hX0 hB0 dX12_power_28 rfl (lv_at hl 2 rfl) ?_
        refine lv_lload_n hX0 hB0 dX12_power_29 rfl (lv_at hl 1 rfl) ?_
        refine z_calli hW (va_runV (C := RX12) (As := [.long (zL p5)]) (rest := []) CX.fix (zk_modulo l o S p5 hI (by constructor <;> omega)) (cwV 1 CX.fix.2.2.2.2 gX12_power_X12_modulo rfl rfl rfl (by decide +kernel) ⟨Nat.le_of_ble_eq_true rfl, Nat.le_of_ble_eq_true rfl⟩) (z_preV CX hW (r := (RX12, TX12, 37)) zMO_0 rfl) rfl rfl hl.1 rfl (lv_room (Nat.le_of_ble_eq_true rfl)) dX12_power_30 ⟨Nat.zero_le _, Nat.zero_le _⟩) (fun z30 gn H locs hok hW => ?_)
        obtain ⟨hz30, hg, hq30⟩ := hok
        rw [hg] at hW
        clear hg
        have e30 : zm_modulo S p5 = z30 := hz30.symm
        clear hz30
        have hE : zm_power S v n = z30 := by unfold zm_power; exact zlet_e e5 (zlet_e e30 rfl)
        rw [← hQ]
        exact z_iret (z := z30) CX hW (by rw [hE]; exact ⟨rfl, rfl, (show 0 ≤ z30 ∧ z30 < S 0 10 from by omega)⟩) rfl dX12_power_33
      ·
        refine lv_lload_n hX0 hB0 dX12_power_11 rfl (lv_at hl 1 rfl) ?_
        refine lv_iload_n hX0 hB0 dX12_power_12 rfl (lv_at hl 3 rfl) ?_
        refine z_i2l CX dX12_power_13 (by constructor <;> omega) ?_
        refine z_lmul (z := p5 * v) CX dX12_power_14 rfl ?_
        have hm14 := zbox_mul (a := p5) (b := v) (A := 30) (B := 1000) (by constructor <;> omega) (by constructor <;> omega) (C := 30000) (by decide)
        refine lv_aload_n hX0 hB0 dX12_power_15 rfl (lv_at hl 2 rfl) ?_
        refine z_get (Cn := RX12) (T := TX12) (N := 37) CX hW (v := .int (zI (S 0 10))) zMO_0 rfl (fun w h => List.mem_cons_of_mem _ (List.mem_append_right _ h)) 10 (by decide) (List.mem_of_getElem? (i := 1) rfl) rfl rfl dX12_power_16 ?_
        have hr16 := hI.s10
        refine z_i2l CX dX12_power_19 (by constructor <;> omega) ?_
        refine z_lrem (z := Int.tmod (p5 * v) (S 0 10)) CX dX12_power_20 (by constructor <;> omega) (by constructor <;> omega) rfl ?_
        have ht20 := ztm (n := p5 * v) (p := S 0 10) (by omega)
        refine lv_lstore_n (lv' := [(3, .long (zL (Int.tmod (p5 * v) (S 0 10)))), (5, .int (zI i5)), (0, .ref o), (1, .int (zI v)), (2, .int (zI n))]) hX0 hB0 dX12_power_21 rfl hl (by decide) rfl (fun ls hl => ?_)
        refine lv_iinc (v := zI (i5 + 1)) (lv' := [(5, .int (zI (i5 + 1))), (3, .long (zL (Int.tmod (p5 * v) (S 0 10)))), (0, .ref o), (1, .int (zI v)), (2, .int (zI n))]) hX0 hB0 dX12_power_22 hl (k := 1) rfl (zI_add _ _) (by decide) rfl (fun ls hl => ?_)
        refine lv_goto (tgt := 5) hX0 hB0 dX12_power_25 (by decide) ?_
        exact ih5 (i5 + 1) (Int.tmod (p5 * v) (S 0 10)) ⟨⟨by omega, by omega⟩, (zfor_s _ _ _ (by omega)).trans ((congrArg (zm_power_L5 S v i5) hz5).trans (by unfold zm_power_L5; exact rfl)), by omega, by omega⟩ (by omega) H locs ls hW (lv_sub hl [0, 1, 2, 3, 4] rfl)
  exact hL5 _ 0 1 ⟨⟨by omega, by omega⟩, zfor_0 _ _ _, by omega, by omega⟩ (Nat.lt_succ_self _) H locs ls hW (lv_sub hl [0, 1, 2, 3, 4] rfl)
def zm_inverse (S : zS2) (v : Int) : Int := zlet (zm_power S v ((S 0 10) - 2)) (fun z8 => z8)
set_option maxRecDepth 100000 in
set_option maxHeartbeats 4000000 in
theorem zk_inverse (l : Launch) {D : va_G} {cI cJ cZ cP cS cM : ClassId} {L : List Nat} {sz : Nat} {f : Nat → va_E} (o : Nat) (S : zS2) (v : Int) (hI : mI S) (hv : -1000 ≤ v ∧ v ≤ 1000) : zMi l yX12_inverse wsX12_inverse 2 49 D (zT cI cJ cZ cP cS cM) L sz (zMO cI cJ o S f) [.ref o, .int (zI v)] (fun zv gv => zv = zm_inverse S v ∧ gv = zMO cI cJ o S f ∧ 0 ≤ zv ∧ zv < S 0 10) := by
  refine zWalk.met (nL := 2) (ret := (some .int)) (cc := cX12_inverse) (by decide) rfl (Nat.le_of_ble_eq_true rfl) ?_
  intro pg en st mi ag bl mt cd ls CX hW hl
  have CX : zC pg st mi ag mt cd cX12_inverse 2 (some .int) RX12 wsX12_inverse := CX
  generalize hQ : MQ bl _ ag st 0 0 _ = Q
  have hX0 := CX.1
  have hB0 := CX.2.1
  have hl : lv_has ls 2 [(0, .ref o), (1, .int (zI v))] := hl
  obtain ⟨H, eH⟩ : ∃ H, H = st.heap := ⟨_, rfl⟩
  obtain ⟨locs, eL⟩ : ∃ L : List Loc, L = [] := ⟨_, rfl⟩
  have hW : zW D (zT cI cJ cZ cP cS cM) L (zQ L sz) st (zMO cI cJ o S f) st.heap H locs := by rw [eH, eL]; exact hW
  suffices hgo : W pg l en ({ frames := 2, cells := 0, slots := 0, locals := 49 } : Room) st mi ag bl mt cd H locs 0 0 Q (F0 mi 0 ls []) by rw [eH, eL] at hgo; exact hgo
  clear eH eL
  have hpb := hI.s10
  refine lv_aload_n hX0 hB0 dX12_inverse_0 rfl (lv_at hl 0 rfl) ?_
  refine lv_iload_n hX0 hB0 dX12_inverse_1 rfl (lv_at hl 1 rfl) ?_
  refine lv_aload_n hX0 hB0 dX12_inverse_2 rfl (lv_at hl 0 rfl) ?_
  refine z_get (Cn := RX12) (T := TX12) (N := 37) CX hW (v := .int (zI (S 0 10))) zMO_0 rfl (fun w h => List.mem_cons_of_mem _ (List.mem_append_right _ h)) 10 (by decide) (List.mem_of_getElem? (i := 1) rfl) rfl rfl dX12_inverse_3 ?_
  have hr3 := hI.s10
  refine lv_iconst (v := zI 2) hX0 hB0 dX12_inverse_6 rfl ?_
  refine z_isub (z := (S 0 10) - 2) CX dX12_inverse_7 rfl ?_
  refine z_calli hW (va_runV (C := RX12) (As := [.int (zI v), .int (zI ((S 0 10) - 2))]) (rest := []) CX.fix (zk_power l o S v ((S 0 10) - 2) hI (by constructor <;> omega) (by constructor <;> omega)) (cwV 2 CX.fix.2.2.2.2 gX12_inverse_X12_power rfl rfl rfl (by decide +kernel) ⟨Nat.le_of_ble_eq_true rfl, Nat.le_of_ble_eq_true rfl⟩) (z_preV CX hW (r := (RX12, TX12, 37)) zMO_0 rfl) rfl rfl hl.1 rfl (lv_room (Nat.le_of_ble_eq_true rfl)) dX12_inverse_8 ⟨Nat.zero_le _, Nat.zero_le _⟩) (fun z8 gn H locs hok hW => ?_)
  obtain ⟨hz8, hg, hq8⟩ := hok
  rw [hg] at hW
  clear hg
  have e8 : zm_power S v ((S 0 10) - 2) = z8 := hz8.symm
  clear hz8
  have hE : zm_inverse S v = z8 := by unfold zm_inverse; exact zlet_e e8 rfl
  rw [← hQ]
  exact z_iret (z := z8) CX hW (by rw [hE]; exact ⟨rfl, rfl, (show 0 ≤ z8 ∧ z8 < S 0 10 from by omega)⟩) rfl dX12_inverse_11
def zm_cell (S : zS2) (g : Int) (i : Int) (j : Int) : Int := S 3 ((((25 * g) + (5 * i)) + j).toNat)
set_option maxRecDepth 100000 in
set_option maxHeartbeats 4000000 in
theorem zk_cell (l : Launch) {D : va_G} {cI cJ cZ cP cS cM : ClassId} {L : List Nat} {sz : Nat} {f : Nat → va_E} (o : Nat) (S : zS2) (g : Int) (i : Int) (j : Int) (hI : mI S) (hg : 0 ≤ g ∧ g ≤ 238) (hi : 0 ≤ i ∧ i ≤ 5) (hj : 0 ≤ j ∧ j ≤ 5) : zMi l yX12_cell wsX12_cell 0 0 D (zT cI cJ cZ cP cS cM) L sz (zMO cI cJ o S f) [.ref o, .int (zI g), .int (zI i), .int (zI j)] (fun zv gv => zv = zm_cell S g i j ∧ gv = zMO cI cJ o S f ∧ 0 ≤ zv ∧ zv ≤ 30) := by
  refine zWalk.met (nL := 4) (ret := (some .int)) (cc := cX12_cell) (by decide) rfl (Nat.le_of_ble_eq_true rfl) ?_
  intro pg en st mi ag bl mt cd ls CX hW hl
  have CX : zC pg st mi ag mt cd cX12_cell 4 (some .int) RX12 wsX12_cell := CX
  generalize hQ : MQ bl _ ag st 0 0 _ = Q
  have hX0 := CX.1
  have hB0 := CX.2.1
  have hl : lv_has ls 4 [(0, .ref o), (1, .int (zI g)), (2, .int (zI i)), (3, .int (zI j))] := hl
  obtain ⟨H, eH⟩ : ∃ H, H = st.heap := ⟨_, rfl⟩
  obtain ⟨locs, eL⟩ : ∃ L : List Loc, L = [] := ⟨_, rfl⟩
  have hW : zW D (zT cI cJ cZ cP cS cM) L (zQ L sz) st (zMO cI cJ o S f) st.heap H locs := by rw [eH, eL]; exact hW
  suffices hgo : W pg l en ({ frames := 0, cells := 0, slots := 0, locals := 0 } : Room) st mi ag bl mt cd H locs 0 0 Q (F0 mi 0 ls []) by rw [eH, eL] at hgo; exact hgo
  clear eH eL
  have hpb := hI.s10
  refine lv_aload_n hX0 hB0 dX12_cell_0 rfl (lv_at hl 0 rfl) ?_
  refine z_get (Cn := RX12) (T := TX12) (N := 37) CX hW (v := .ref (o + 3)) zMO_0 rfl (fun w h => List.mem_cons_of_mem _ (List.mem_append_right _ h)) 11 (by decide) (List.mem_of_getElem? (i := 1) rfl) rfl rfl dX12_cell_1 ?_
  refine lv_bipush (v := zI 25) hX0 hB0 dX12_cell_4 (by decide) ?_
  refine lv_iload_n hX0 hB0 dX12_cell_6 rfl (lv_at hl 1 rfl) ?_
  refine z_imul (z := 25 * g) CX dX12_cell_7 rfl ?_
  refine lv_iconst (v := zI 5) hX0 hB0 dX12_cell_8 rfl ?_
  refine lv_iload_n hX0 hB0 dX12_cell_9 rfl (lv_at hl 2 rfl) ?_
  refine z_imul (z := 5 * i) CX dX12_cell_10 rfl ?_
  refine z_iadd (z := (25 * g) + (5 * i)) CX dX12_cell_11 rfl ?_
  refine lv_iload_n hX0 hB0 dX12_cell_12 rfl (lv_at hl 3 rfl) ?_
  refine z_iadd (z := ((25 * g) + (5 * i)) + j) CX dX12_cell_13 rfl ?_
  refine z_iald (z := S 3 ((((25 * g) + (5 * i)) + j).toNat)) CX hW zMO_3 0 rfl (by refine ⟨?_, ?_, ?_⟩ <;> omega) rfl dX12_cell_14 ?_
  have hr14 := hI.r3 ((((25 * g) + (5 * i)) + j).toNat)
  have hE : zm_cell S g i j = S 3 ((((25 * g) + (5 * i)) + j).toNat) := by unfold zm_cell; exact rfl
  rw [← hQ]
  exact z_iret (z := S 3 ((((25 * g) + (5 * i)) + j).toNat)) CX hW (by rw [hE]; exact ⟨rfl, rfl, (show 0 ≤ (S 3 ((((25 * g) + (5 * i)) + j).toNat)) ∧ (S 3 ((((25 * g) + (5 * i)) + j).toNat)) ≤ 30 from by omega)⟩) rfl dX12_cell_15
def zm_sets (S : zS2) (g : Int) (i : Int) (j : Int) (v : Int) : zS2 := zlet (zm_modulo S v) (fun z17 => zlet (za S 3 ((((25 * g) + (5 * i)) + j).toNat) z17) (fun S20 => S20))
set_option maxRecDepth 100000 in
set_option maxHeartbeats 4000000 in
theorem zk_sets (l : Launch) {D : va_G} {cI cJ cZ cP cS cM : ClassId} {L : List Nat} {sz : Nat} {f : Nat → va_E} (o : Nat) (S : zS2) (g : Int) (i : Int) (j : Int) (v : Int) (hI : mI S) (hg : 0 ≤ g ∧ g ≤ 238) (hi : 0 ≤ i ∧ i ≤ 4) (hj : 0 ≤ j ∧ j ≤ 4) (hv : -9223372036854775808 ≤ v ∧ v ≤ 9223372036854775807) : zMv l yX12_sets wsX12_sets 1 24 D (zT cI cJ cZ cP cS cM) L sz (zMO cI cJ o S f) [.ref o, .int (zI g), .int (zI i), .int (zI j), .long (zL v)] (fun gv => gv = zMO cI cJ o (zm_sets S g i j v) f ∧ mI (zm_sets S g i j v) ∧ (∀ kk ii : Nat, ¬ (kk = 3 ∧ 25 * g ≤ (ii : Int)) → (zm_sets S g i j v) kk ii = S kk ii) ∧ True) := by
  refine zWalk.met (nL := 6) (ret := none) (cc := cX12_sets) (by decide) rfl (Nat.le_of_ble_eq_true rfl) ?_
  intro pg en st mi ag bl mt cd ls CX hW hl
  have CX : zC pg st mi ag mt cd cX12_sets 6 none RX12 wsX12_sets := CX
  generalize hQ : MQ bl _ ag st 0 0 _ = Q
  have hX0 := CX.1
  have hB0 := CX.2.1
  have hl : lv_has ls 6 [(0, .ref o), (1, .int (zI g)), (2, .int (zI i)), (3, .int (zI j)), (4, .long (zL v))] := hl
  obtain ⟨H, eH⟩ : ∃ H, H = st.heap := ⟨_, rfl⟩
  obtain ⟨locs, eL⟩ : ∃ L : List Loc, L = [] := ⟨_, rfl⟩
  have hW : zW D (zT cI cJ cZ cP cS cM) L (zQ L sz) st (zMO cI cJ o S f) st.heap H locs := by rw [eH, eL]; exact hW
  suffices hgo : W pg l en ({ frames := 1, cells := 0, slots := 0, locals := 24 } : Room) st mi ag bl mt cd H locs 0 0 Q (F0 mi 0 ls []) by rw [eH, eL] at hgo; exact hgo
  clear eH eL
  have hpb := hI.s10
  refine lv_aload_n hX0 hB0 dX12_sets_0 rfl (lv_at hl 0 rfl) ?_
  refine z_get (Cn := RX12) (T := TX12) (N := 37) CX hW (v := .ref (o + 3)) zMO_0 rfl (fun w h => List.mem_cons_of_mem _ (List.mem_append_right _ h)) 11 (by decide) (List.mem_of_getElem? (i := 1) rfl) rfl rfl dX12_sets_1 ?_
  refine lv_bipush (v := zI 25) hX0 hB0 dX12_sets_4 (by decide) ?_
  refine lv_iload_n hX0 hB0 dX12_sets_6 rfl (lv_at hl 1 rfl) ?_
  refine z_imul (z := 25 * g) CX dX12_sets_7 rfl ?_
  refine lv_iconst (v := zI 5) hX0 hB0 dX12_sets_8 rfl ?_
  refine lv_iload_n hX0 hB0 dX12_sets_9 rfl (lv_at hl 2 rfl) ?_
  refine z_imul (z := 5 * i) CX dX12_sets_10 rfl ?_
  refine z_iadd (z := (25 * g) + (5 * i)) CX dX12_sets_11 rfl ?_
  refine lv_iload_n hX0 hB0 dX12_sets_12 rfl (lv_at hl 3 rfl) ?_
  refine z_iadd (z := ((25 * g) + (5 * i)) + j) CX dX12_sets_13 rfl ?_
  refine lv_aload_n hX0 hB0 dX12_sets_14 rfl (lv_at hl 0 rfl) ?_
  refine lv_lload hX0 hB0 dX12_sets_15 (lv_at hl 4 rfl) ?_
  refine z_calli hW (va_runV (C := RX12) (As := [.long (zL v)]) (rest := [.int (zI (((25 * g) + (5 * i)) + j)), .ref (o + 3)]) CX.fix (zk_modulo l o S v hI (by constructor <;> omega)) (cwV 1 CX.fix.2.2.2.2 gX12_sets_X12_modulo rfl rfl rfl (by decide +kernel) ⟨Nat.le_of_ble_eq_true rfl, Nat.le_of_ble_eq_true rfl⟩) (z_preV CX hW (r := (RX12, TX12, 37)) zMO_0 rfl) rfl rfl hl.1 rfl (lv_room (Nat.le_of_ble_eq_true rfl)) dX12_sets_17 ⟨Nat.zero_le _, Nat.zero_le _⟩) (fun z17 gn H locs hok hW => ?_)
  obtain ⟨hz17, hg, hq17⟩ := hok
  rw [hg] at hW
  clear hg
  have e17 : zm_modulo S v = z17 := hz17.symm
  clear hz17
  obtain ⟨S20, e20⟩ : ∃ q, za S 3 ((((25 * g) + (5 * i)) + j).toNat) z17 = q := ⟨_, rfl⟩
  refine z_iast CX hW zMO_3 0 rfl (by refine ⟨?_, ?_, ?_⟩ <;> omega) (g := zMO cI cJ o S20 f) (zMO_w3.trans (by rw [← e20]; rfl)) dX12_sets_20 (fun H locs hW => ?_)
  have hI20 : mI S20 := e20 ▸ hI.w3 (by constructor <;> omega)
  have hE : zm_sets S g i j v = S20 := by unfold zm_sets; exact zlet_e e17 (zlet_e e20 rfl)
  have hFr : ∀ kk ii : Nat, ¬ (kk = 3 ∧ 25 * g ≤ (ii : Int)) → S20 kk ii = S kk ii := fun kk ii hk => (show S20 kk ii = S kk ii from by rw [← e20]; exact za_ne (by omega))
  rw [← hQ]
  exact z_vret CX hW (by rw [hE]; exact ⟨rfl, hI20, hFr, trivial⟩) dX12_sets_21
def zm_empties_L2 (g : Int) : Int → zS2 → zS2 := fun i2 s2 => (fun (S2 : zS2) => zlet (za S2 3 (((25 * g) + i2).toNat) 0) (fun S19 => S19)) s2
def zm_empties (S : zS2) (g : Int) : zS2 := zlet (zfor (zm_empties_L2 g) 0 S (24 + 1 - 0 : Int).toNat) (fun S2 => S2)
set_option maxRecDepth 100000 in
set_option maxHeartbeats 4000000 in
theorem zk_empties (l : Launch) {D : va_G} {cI cJ cZ cP cS cM : ClassId} {L : List Nat} {sz : Nat} {f : Nat → va_E} (o : Nat) (S : zS2) (g : Int) (hI : mI S) (hg : 0 ≤ g ∧ g ≤ 238) : zMv l yX12_empties wsX12_empties 0 0 D (zT cI cJ cZ cP cS cM) L sz (zMO cI cJ o S f) [.ref o, .int (zI g)] (fun gv => gv = zMO cI cJ o (zm_empties S g) f ∧ mI (zm_empties S g) ∧ (∀ kk ii : Nat, ¬ (kk = 3 ∧ 25 * g ≤ (ii : Int)) → (zm_empties S g) kk ii = S kk ii) ∧ True) := by
  refine zWalk.met (nL := 3) (ret := none) (cc := cX12_empties) (by decide) rfl (Nat.le_of_ble_eq_true rfl) ?_
  intro pg en st mi ag bl mt cd ls CX hW hl
  have CX : zC pg st mi ag mt cd cX12_empties 3 none RX12 wsX12_empties := CX
  generalize hQ : MQ bl _ ag st 0 0 _ = Q
  have hX0 := CX.1
  have hB0 := CX.2.1
  have hl : lv_has ls 3 [(0, .ref o), (1, .int (zI g))] := hl
  obtain ⟨H, eH⟩ : ∃ H, H = st.heap := ⟨_, rfl⟩
  obtain ⟨locs, eL⟩ : ∃ L : List Loc, L = [] := ⟨_, rfl⟩
  have hW : zW D (zT cI cJ cZ cP cS cM) L (zQ L sz) st (zMO cI cJ o S f) st.heap H locs := by rw [eH, eL]; exact hW
  suffices hgo : W pg l en ({ frames := 0, cells := 0, slots := 0, locals := 0 } : Room) st mi ag bl mt cd H locs 0 0 Q (F0 mi 0 ls []) by rw [eH, eL] at hgo; exact hgo
  clear eH eL
  have hpb := hI.s10
  refine lv_iconst (v := zI 0) hX0 hB0 dX12_empties_0 rfl ?_
  refine lv_istore_n (lv' := [(2, .int (zI 0)), (0, .ref o), (1, .int (zI g))]) hX0 hB0 dX12_empties_1 rfl hl (by decide) rfl (fun ls hl => ?_)
  have hL2 : ∀ (fu : Nat) (i2 : Int) (S2 : zS2), ((0 ≤ i2 ∧ i2 ≤ 24 + 1) ∧ zfor (zm_empties_L2 g) 0 S (i2 - 0).toNat = S2 ∧ mI S2 ∧ (∀ kk ii : Nat, ¬ (kk = 3 ∧ 25 * g ≤ (ii : Int)) → S2 kk ii = S kk ii)) → (24 + 1 - i2).toNat < fu → ∀ (H : Heap) (locs : List Loc) (ls : Array Slot), zW D (zT cI cJ cZ cP cS cM) L (zQ L sz) st (zMO cI cJ o S2 f) st.heap H locs → lv_has ls 3 [(2, .int (zI i2)), (0, .ref o), (1, .int (zI g))] → W pg l en ({ frames := 0, cells := 0, slots := 0, locals := 0 } : Room) st mi ag bl mt cd H locs 0 0 Q (F0 mi 2 ls []) := by
    intro fu
    induction fu with
    | zero => intro i2 S2 _ hfu; exact absurd hfu (Nat.not_lt_zero _)
    | succ fu ih2 =>
      intro i2 S2 hinv hfu2 H locs ls hW hl
      obtain ⟨⟨hlo2, hhi2⟩, hz2, hI2, hf2⟩ := hinv
      have hp2 := hI2.s10
      refine lv_iload_n hX0 hB0 dX12_empties_2 rfl (lv_at hl 0 rfl) ?_
      refine lv_bipush (v := zI 25) hX0 hB0 dX12_empties_3 (by decide) ?_
      refine z_icmp_ge (tgt := 26) CX dX12_empties_5 (by decide) (by constructor <;> omega) (by constructor <;> omega) (fun c_5 => ?_) (fun c_5 => ?_)
      ·
        have e2 : zfor (zm_empties_L2 g) 0 S (24 + 1 - 0 : Int).toNat = S2 := by rw [show (24 + 1 - 0 : Int).toNat = (i2 - 0).toNat by omega]; exact hz2
        have hE : zm_empties S g = S2 := by unfold zm_empties; exact zlet_e e2 rfl
        have hFr : ∀ kk ii : Nat, ¬ (kk = 3 ∧ 25 * g ≤ (ii : Int)) → S2 kk ii = S kk ii := fun kk ii hk => (hf2 kk ii (by omega))
        rw [← hQ]
        exact z_vret CX hW (by rw [hE]; exact ⟨rfl, hI2, hFr, trivial⟩) dX12_empties_26
      ·
        refine lv_aload_n hX0 hB0 dX12_empties_8 rfl (lv_at hl 1 rfl) ?_
        refine z_get (Cn := RX12) (T := TX12) (N := 37) CX hW (v := .ref (o + 3)) zMO_0 rfl (fun w h => List.mem_cons_of_mem _ (List.mem_append_right _ h)) 11 (by decide) (List.mem_of_getElem? (i := 1) rfl) rfl rfl dX12_empties_9 ?_
        refine lv_bipush (v := zI 25) hX0 hB0 dX12_empties_12 (by decide) ?_
        refine lv_iload_n hX0 hB0 dX12_empties_14 rfl (lv_at hl 2 rfl) ?_
        refine z_imul (z := 25 * g) CX dX12_empties_15 rfl ?_
        refine lv_iload_n hX0 hB0 dX12_empties_16 rfl (lv_at hl 0 rfl) ?_
        refine z_iadd (z := (25 * g) + i2) CX dX12_empties_17 rfl ?_
        refine lv_iconst (v := zI 0) hX0 hB0 dX12_empties_18 rfl ?_
        obtain ⟨S19, e19⟩ : ∃ q, za S2 3 (((25 * g) + i2).toNat) 0 = q := ⟨_, rfl⟩
        refine z_iast CX hW zMO_3 0 rfl (by refine ⟨?_, ?_, ?_⟩ <;> omega) (g := zMO cI cJ o S19 f) (zMO_w3.trans (by rw [← e19]; rfl)) dX12_empties_19 (fun H locs hW => ?_)
        have hI19 : mI S19 := e19 ▸ hI2.w3 (by constructor <;> omega)
        refine lv_iinc (v := zI (i2 + 1)) (lv' := [(2, .int (zI (i2 + 1))), (0, .ref o), (1, .int (zI g))]) hX0 hB0 dX12_empties_20 hl (k := 0) rfl (zI_add _ _) (by decide) rfl (fun ls hl => ?_)
        refine lv_goto (tgt := 2) hX0 hB0 dX12_empties_23 (by decide) ?_
        exact ih2 (i2 + 1) S19 ⟨⟨by omega, by omega⟩, (zfor_s _ _ _ (by omega)).trans ((congrArg (zm_empties_L2 g i2) hz2).trans (by unfold zm_empties_L2; exact zlet_e e19 rfl)), hI19, fun kk ii hk => ((show S19 kk ii = S2 kk ii from by rw [← e19]; exact za_ne (by omega))).trans (hf2 kk ii (by omega))⟩ (by omega) H locs ls hW (lv_sub hl [0, 1, 2] rfl)
  exact hL2 _ 0 S ⟨⟨by omega, by omega⟩, zfor_0 _ _ _, hI, fun kk ii hk => rfl⟩ (Nat.lt_succ_self _) H locs ls hW (lv_sub hl [0, 1, 2] rfl)
def zm_copies_L2 (to : Int) (from_ : Int) : Int → zS2 → zS2 := fun i2 s2 => (fun (S2 : zS2) => zlet (za S2 3 (((25 * to) + i2).toNat) (S2 3 (((25 * from_) + i2).toNat))) (fun S29 => S29)) s2
def zm_copies (S : zS2) (to : Int) (from_ : Int) : zS2 := zlet (zfor (zm_copies_L2 to from_) 0 S (24 + 1 - 0 : Int).toNat) (fun S2 => S2)
set_option maxRecDepth 100000 in
set_option maxHeartbeats 4000000 in
theorem zk_copies (l : Launch) {D : va_G} {cI cJ cZ cP cS cM : ClassId} {L : List Nat} {sz : Nat} {f : Nat → va_E} (o : Nat) (S : zS2) (to : Int) (from_ : Int) (hI : mI S) (hto : 0 ≤ to ∧ to ≤ 238) (hfrom_ : 0 ≤ from_ ∧ from_ ≤ 238) : zMv l yX12_copies wsX12_copies 0 0 D (zT cI cJ cZ cP cS cM) L sz (zMO cI cJ o S f) [.ref o, .int (zI to), .int (zI from_)] (fun gv => gv = zMO cI cJ o (zm_copies S to from_) f ∧ mI (zm_copies S to from_) ∧ (∀ kk ii : Nat, ¬ (kk = 3 ∧ 25 * to ≤ (ii : Int)) → (zm_copies S to from_) kk ii = S kk ii) ∧ True) := by
  refine zWalk.met (nL := 4) (ret := none) (cc := cX12_copies) (by decide) rfl (Nat.le_of_ble_eq_true rfl) ?_
  intro pg en st mi ag bl mt cd ls CX hW hl
  have CX : zC pg st mi ag mt cd cX12_copies 4 none RX12 wsX12_copies := CX
  generalize hQ : MQ bl _ ag st 0 0 _ = Q
  have hX0 := CX.1
  have hB0 := CX.2.1
  have hl : lv_has ls 4 [(0, .ref o), (1, .int (zI to)), (2, .int (zI from_))] := hl
  obtain ⟨H, eH⟩ : ∃ H, H = st.heap := ⟨_, rfl⟩
  obtain ⟨locs, eL⟩ : ∃ L : List Loc, L = [] := ⟨_, rfl⟩
  have hW : zW D (zT cI cJ cZ cP cS cM) L (zQ L sz) st (zMO cI cJ o S f) st.heap H locs := by rw [eH, eL]; exact hW
  suffices hgo : W pg l en ({ frames := 0, cells := 0, slots := 0, locals := 0 } : Room) st mi ag bl mt cd H locs 0 0 Q (F0 mi 0 ls []) by rw [eH, eL] at hgo; exact hgo
  clear eH eL
  have hpb := hI.s10
  refine lv_iconst (v := zI 0) hX0 hB0 dX12_copies_0 rfl ?_
  refine lv_istore_n (lv' := [(3, .int (zI 0)), (0, .ref o), (1, .int (zI to)), (2, .int (zI from_))]) hX0 hB0 dX12_copies_1 rfl hl (by decide) rfl (fun ls hl => ?_)
  have hL2 : ∀ (fu : Nat) (i2 : Int) (S2 : zS2), ((0 ≤ i2 ∧ i2 ≤ 24 + 1) ∧ zfor (zm_copies_L2 to from_) 0 S (i2 - 0).toNat = S2 ∧ mI S2 ∧ (∀ kk ii : Nat, ¬ (kk = 3 ∧ 25 * to ≤ (ii : Int)) → S2 kk ii = S kk ii)) → (24 + 1 - i2).toNat < fu → ∀ (H : Heap) (locs : List Loc) (ls : Array Slot), zW D (zT cI cJ cZ cP cS cM) L (zQ L sz) st (zMO cI cJ o S2 f) st.heap H locs → lv_has ls 4 [(3, .int (zI i2)), (0, .ref o), (1, .int (zI to)), (2, .int (zI from_))] → W pg l en ({ frames := 0, cells := 0, slots := 0, locals := 0 } : Room) st mi ag bl mt cd H locs 0 0 Q (F0 mi 2 ls []) := by
    intro fu
    induction fu with
    | zero => intro i2 S2 _ hfu; exact absurd hfu (Nat.not_lt_zero _)
    | succ fu ih2 =>
      intro i2 S2 hinv hfu2 H locs ls hW hl
      obtain ⟨⟨hlo2, hhi2⟩, hz2, hI2, hf2⟩ := hinv
      have hp2 := hI2.s10
      refine lv_iload_n hX0 hB0 dX12_copies_2 rfl (lv_at hl 0 rfl) ?_
      refine lv_bipush (v := zI 25) hX0 hB0 dX12_copies_3 (by decide) ?_
      refine z_icmp_ge (tgt := 36) CX dX12_copies_5 (by decide) (by constructor <;> omega) (by constructor <;> omega) (fun c_5 => ?_) (fun c_5 => ?_)
      ·
        have e2 : zfor (zm_copies_L2 to from_) 0 S (24 + 1 - 0 : Int).toNat = S2 := by rw [show (24 + 1 - 0 : Int).toNat = (i2 - 0).toNat by omega]; exact hz2
        have hE : zm_copies S to from_ = S2 := by unfold zm_copies; exact zlet_e e2 rfl
        have hFr : ∀ kk ii : Nat, ¬ (kk = 3 ∧ 25 * to ≤ (ii : Int)) → S2 kk ii = S kk ii := fun kk ii hk => (hf2 kk ii (by omega))
        rw [← hQ]
        exact z_vret CX hW (by rw [hE]; exact ⟨rfl, hI2, hFr, trivial⟩) dX12_copies_36
      ·
        refine lv_aload_n hX0 hB0 dX12_copies_8 rfl (lv_at hl 1 rfl) ?_
        refine z_get (Cn := RX12) (T := TX12) (N := 37) CX hW (v := .ref (o + 3)) zMO_0 rfl (fun w h => List.mem_cons_of_mem _ (List.mem_append_right _ h)) 11 (by decide) (List.mem_of_getElem? (i := 1) rfl) rfl rfl dX12_copies_9 ?_
        refine lv_bipush (v := zI 25) hX0 hB0 dX12_copies_12 (by decide) ?_
        refine lv_iload_n hX0 hB0 dX12_copies_14 rfl (lv_at hl 2 rfl) ?_
        refine z_imul (z := 25 * to) CX dX12_copies_15 rfl ?_
        refine lv_iload_n hX0 hB0 dX12_copies_16 rfl (lv_at hl 0 rfl) ?_
        refine z_iadd (z := (25 * to) + i2) CX dX12_copies_17 rfl ?_
        refine lv_aload_n hX0 hB0 dX12_copies_18 rfl (lv_at hl 1 rfl) ?_
        refine z_get (Cn := RX12) (T := TX12) (N := 37) CX hW (v := .ref (o + 3)) zMO_0 rfl (fun w h => List.mem_cons_of_mem _ (List.mem_append_right _ h)) 11 (by decide) (List.mem_of_getElem? (i := 1) rfl) rfl rfl dX12_copies_19 ?_
        refine lv_bipush (v := zI 25) hX0 hB0 dX12_copies_22 (by decide) ?_
        refine lv_iload_n hX0 hB0 dX12_copies_24 rfl (lv_at hl 3 rfl) ?_
        refine z_imul (z := 25 * from_) CX dX12_copies_25 rfl ?_
        refine lv_iload_n hX0 hB0 dX12_copies_26 rfl (lv_at hl 0 rfl) ?_
        refine z_iadd (z := (25 * from_) + i2) CX dX12_copies_27 rfl ?_
        refine z_iald (z := S2 3 (((25 * from_) + i2).toNat)) CX hW zMO_3 0 rfl (by refine ⟨?_, ?_, ?_⟩ <;> omega) rfl dX12_copies_28 ?_
        have hr28 := hI2.r3 (((25 * from_) + i2).toNat)
        obtain ⟨S29, e29⟩ : ∃ q, za S2 3 (((25 * to) + i2).toNat) (S2 3 (((25 * from_) + i2).toNat)) = q := ⟨_, rfl⟩
        refine z_iast CX hW zMO_3 0 rfl (by refine ⟨?_, ?_, ?_⟩ <;> omega) (g := zMO cI cJ o S29 f) (zMO_w3.trans (by rw [← e29]; rfl)) dX12_copies_29 (fun H locs hW => ?_)
        have hI29 : mI S29 := e29 ▸ hI2.w3 (by constructor <;> omega)
        refine lv_iinc (v := zI (i2 + 1)) (lv' := [(3, .int (zI (i2 + 1))), (0, .ref o), (1, .int (zI to)), (2, .int (zI from_))]) hX0 hB0 dX12_copies_30 hl (k := 0) rfl (zI_add _ _) (by decide) rfl (fun ls hl => ?_)
        refine lv_goto (tgt := 2) hX0 hB0 dX12_copies_33 (by decide) ?_
        exact ih2 (i2 + 1) S29 ⟨⟨by omega, by omega⟩, (zfor_s _ _ _ (by omega)).trans ((congrArg (zm_copies_L2 to from_ i2) hz2).trans (by unfold zm_copies_L2; exact zlet_e e29 rfl)), hI29, fun kk ii hk => ((show S29 kk ii = S2 kk ii from by rw [← e29]; exact za_ne (by omega))).trans (hf2 kk ii (by omega))⟩ (by omega) H locs ls hW (lv_sub hl [0, 1, 2, 3] rfl)
  exact hL2 _ 0 S ⟨⟨by omega, by omega⟩, zfor_0 _ _ _, hI, fun kk ii hk => rfl⟩ (Nat.lt_succ_self _) H locs ls hW (lv_sub hl [0, 1, 2, 3] rfl)
def zm_degreeOf_L12 (S : zS2) (g : Int) (i4 : Int) : Int → Int → Int := fun i12 s12 => (fun (n12 : Int) => zlet (zm_cell S g i4 i12) (fun z25 => (if z25 = 0 then n12 else (if i4 + i12 ≤ n12 then n12 else (i4 + i12))))) s12
def zm_degreeOf_L4 (S : zS2) (g : Int) : Int → Int → Int := fun i4 s4 => (fun (n4 : Int) => zlet (zfor (zm_degreeOf_L12 S g i4) 0 n4 ((4 - i4) + 1 - 0).toNat) (fun n12 => n12)) s4
def zm_degreeOf (S : zS2) (g : Int) : Int := zlet (zfor (zm_degreeOf_L4 S g) 0 (-1) (4 + 1 - 0 : Int).toNat) (fun n4 => n4)
set_option maxRecDepth 100000 in
set_option maxHeartbeats 4000000 in
theorem zk_degreeOf (l : Launch) {D : va_G} {cI cJ cZ cP cS cM : ClassId} {L : List Nat} {sz : Nat} {f : Nat → va_E} (o : Nat) (S : zS2) (g : Int) (hI : mI S) (hg : 0 ≤ g ∧ g ≤ 238) : zMi l yX12_degreeOf wsX12_degreeOf 1 23 D (zT cI cJ cZ cP cS cM) L sz (zMO cI cJ o S f) [.ref o, .int (zI g)] (fun zv gv => zv = zm_degreeOf S g ∧ gv = zMO cI cJ o S f ∧ -1 ≤ zv ∧ zv ≤ 4) := by
  refine zWalk.met (nL := 5) (ret := (some .int)) (cc := cX12_degreeOf) (by decide) rfl (Nat.le_of_ble_eq_true rfl) ?_
  intro pg en st mi ag bl mt cd ls CX hW hl
  have CX : zC pg st mi ag mt cd cX12_degreeOf 5 (some .int) RX12 wsX12_degreeOf := CX
  generalize hQ : MQ bl _ ag st 0 0 _ = Q
  have hX0 := CX.1
  have hB0 := CX.2.1
  have hl : lv_has ls 5 [(0, .ref o), (1, .int (zI g))] := hl
  obtain ⟨H, eH⟩ : ∃ H, H = st.heap := ⟨_, rfl⟩
  obtain ⟨locs, eL⟩ : ∃ L : List Loc, L = [] := ⟨_, rfl⟩
  have hW : zW D (zT cI cJ cZ cP cS cM) L (zQ L sz) st (zMO cI cJ o S f) st.heap H locs := by rw [eH, eL]; exact hW
  suffices hgo : W pg l en ({ frames := 1, cells := 0, slots := 0, locals := 23 } : Room) st mi ag bl mt cd H locs 0 0 Q (F0 mi 0 ls []) by rw [eH, eL] at hgo; exact hgo
  clear eH eL
  have hpb := hI.s10
  refine lv_iconst (v := zI (-1)) hX0 hB0 dX12_degreeOf_0 rfl ?_
  refine lv_istore_n (lv' := [(2, .int (zI (-1))), (0, .ref o), (1, .int (zI g))]) hX0 hB0 dX12_degreeOf_1 rfl hl (by decide) rfl (fun ls hl => ?_)
  refine lv_iconst (v := zI 0) hX0 hB0 dX12_degreeOf_2 rfl ?_
  refine lv_istore_n (lv' := [(3, .int (zI 0)), (2, .int (zI (-1))), (0, .ref o), (1, .int (zI g))]) hX0 hB0 dX12_degreeOf_3 rfl hl (by decide) rfl (fun ls hl => ?_)
  have hL4 : ∀ (fu : Nat) (i4 : Int) (n4 : Int), ((0 ≤ i4 ∧ i4 ≤ 4 + 1) ∧ zfor (zm_degreeOf_L4 S g) 0 (-1) (i4 - 0).toNat = n4 ∧ -1 ≤ n4 ∧ n4 ≤ 4) → (4 + 1 - i4).toNat < fu → ∀ (H : Heap) (locs : List Loc) (ls : Array Slot), zW D (zT cI cJ cZ cP cS cM) L (zQ L sz) st (zMO cI cJ o S f) st.heap H locs → lv_has ls 5 [(3, .int (zI i4)), (2, .int (zI n4)), (0, .ref o), (1, .int (zI g))] → W pg l en ({ frames := 1, cells := 0, slots := 0, locals := 23 } : Room) st mi ag bl mt cd H locs 0 0 Q (F0 mi 4 ls []) := by
    intro fu
    induction fu with
    | zero => intro i4 n4 _ hfu; exact absurd hfu (Nat.not_lt_zero _)
    | succ fu ih4 =>
      intro i4 n4 hinv hfu4 H locs ls hW hl
      obtain ⟨⟨hlo4, hhi4⟩, hz4, han4, hbn4⟩ := hinv
      refine lv_iload_n hX0 hB0 dX12_degreeOf_4 rfl (lv_at hl 0 rfl) ?_
      refine lv_iconst (v := zI 4) hX0 hB0 dX12_degreeOf_5 rfl ?_
      refine z_icmp_gt (tgt := 60) CX dX12_degreeOf_6 (by decide) (by constructor <;> omega) (by constructor <;> omega) (fun c_6 => ?_) (fun c_6 => ?_)
      ·
        have e4 : zfor (zm_degreeOf_L4 S g) 0 (-1) (4 + 1 - 0 : Int).toNat = n4 := by rw [show (4 + 1 - 0 : Int).toNat = (i4 - 0).toNat by omega]; exact hz4
        refine lv_iload_n hX0 hB0 dX12_degreeOf_60 rfl (lv_at hl 1 rfl) ?_
        have hE : zm_degreeOf S g = n4 := by unfold zm_degreeOf; exact zlet_e e4 rfl
        rw [← hQ]
        exact z_iret (z := n4) CX hW (by rw [hE]; exact ⟨rfl, rfl, (show -1 ≤ n4 ∧ n4 ≤ 4 from by omega)⟩) rfl dX12_degreeOf_61
      ·
        refine lv_iconst (v := zI 0) hX0 hB0 dX12_degreeOf_9 rfl ?_
        refine lv_istore (lv' := [(4, .int (zI 0)), (3, .int (zI i4)), (2, .int (zI n4)), (0, .ref o), (1, .int (zI g))]) hX0 hB0 dX12_degreeOf_10 hl (by decide) rfl (fun ls hl => ?_)
        have hL12 : ∀ (fu : Nat) (i12 : Int) (n12 : Int), ((0 ≤ i12 ∧ i12 ≤ 4 - i4 + 1) ∧ zfor (zm_degreeOf_L12 S g i4) 0 n4 (i12 - 0).toNat = n12 ∧ -1 ≤ n12 ∧ n12 ≤ 4) → ((4 - i4) + 1 - i12).toNat < fu → ∀ (H : Heap) (locs : List Loc) (ls : Array Slot), zW D (zT cI cJ cZ cP cS cM) L (zQ L sz) st (zMO cI cJ o S f) st.heap H locs → lv_has ls 5 [(4, .int (zI i12)), (2, .int (zI n12)), (3, .int (zI i4)), (0, .ref o), (1, .int (zI g))] → W pg l en ({ frames := 1, cells := 0, slots := 0, locals := 23 } : Room) st mi ag bl mt cd H locs 0 0 Q (F0 mi 12 ls []) := by
          intro fu
          induction fu with
          | zero => intro i12 n12 _ hfu; exact absurd hfu (Nat.not_lt_zero _)
          | succ fu ih12 =>
            intro i12 n12 hinv hfu12 H locs ls hW hl
            obtain ⟨⟨hlo12, hhi12⟩, hz12, han12, hbn12⟩ := hinv
            refine lv_iload_n hX0 hB0 dX12_degreeOf_12 rfl (lv_at hl 2 rfl) ?_
            refine lv_iload hX0 hB0 dX12_degreeOf_13 (lv_at hl 0 rfl) ?_
            refine z_iadd (z := i4 + i12) CX dX12_degreeOf_15 rfl ?_
            refine lv_iconst (v := zI 4) hX0 hB0 dX12_degreeOf_16 rfl ?_
            refine z_icmp_gt (tgt := 54) CX dX12_degreeOf_17 (by decide) (by constructor <;> omega) (by constructor <;> omega) (fun c_17 => ?_) (fun c_17 => ?_)
            ·
              have e12 : zfor (zm_degreeOf_L12 S g i4) 0 n4 ((4 - i4) + 1 - 0).toNat = n12 := by rw [show ((4 - i4) + 1 - 0).toNat = (i12 - 0).toNat by omega]; exact hz12
              refine lv_iinc (v := zI (i4 + 1)) (lv' := [(3, .int (zI (i4 + 1))), (4, .int (zI i12)), (2, .int (zI n12)), (0, .ref o), (1, .int (zI g))]) hX0 hB0 dX12_degreeOf_54 hl (k := 2) rfl (zI_add _ _) (by decide) rfl (fun ls hl => ?_)
              refine lv_goto (tgt := 4) hX0 hB0 dX12_degreeOf_57 (by decide) ?_
              exact ih4 (i4 + 1) n12 ⟨⟨by omega, by omega⟩, (zfor_s _ _ _ (by omega)).trans ((congrArg (zm_degreeOf_L4 S g i4) hz4).trans (by unfold zm_degreeOf_L4; exact zlet_e e12 rfl)), by omega, by omega⟩ (by omega) H locs ls hW (lv_sub hl [0, 2, 3, 4] rfl)
            ·
              refine lv_aload_n hX0 hB0 dX12_degreeOf_20 rfl (lv_at hl 3 rfl) ?_
              refine lv_iload_n hX0 hB0 dX12_degreeOf_21 rfl (lv_at hl 4 rfl) ?_
              refine lv_iload_n hX0 hB0 dX12_degreeOf_22 rfl (lv_at hl 2 rfl) ?_
              refine lv_iload hX0 hB0 dX12_degreeOf_23 (lv_at hl 0 rfl) ?_
              refine z_calli hW (va_runV (C := RX12) (As := [.int (zI g), .int (zI i4), .int (zI i12)]) (rest := []) CX.fix (zk_cell l o S g i4 i12 hI (by constructor <;> omega) (by constructor <;> omega) (by constructor <;> omega)) (cwV 3 CX.fix.2.2.2.2 gX12_degreeOf_X12_cell rfl rfl rfl (by decide +kernel) ⟨Nat.le_of_ble_eq_true rfl, Nat.le_of_ble_eq_true rfl⟩) (z_preV CX hW (r := (RX12, TX12, 37)) zMO_0 rfl) rfl rfl hl.1 rfl (lv_room (Nat.le_of_ble_eq_true rfl)) dX12_degreeOf_25 ⟨Nat.zero_le _, Nat.zero_le _⟩) (fun z25 gn H locs hok hW => ?_)
              obtain ⟨hz25, hg, hq25⟩ := hok
              rw [hg] at hW
              clear hg
              have e25 : zm_cell S g i4 i12 = z25 := hz25.symm
              clear hz25
              refine z_if_eq (tgt := 46) CX dX12_degreeOf_28 (by decide) (by constructor <;> omega) (fun c_28 => ?_) (fun c_28 => ?_)
              ·
                refine lv_iload_n hX0 hB0 dX12_degreeOf_46 rfl (lv_at hl 1 rfl) ?_
                refine lv_istore_n (lv' := [(2, .int (zI n12)), (4, .int (zI i12)), (3, .int (zI i4)), (0, .ref o), (1, .int (zI g))]) hX0 hB0 dX12_degreeOf_47 rfl hl (by decide) rfl (fun ls hl => ?_)
                refine lv_iinc (v := zI (i12 + 1)) (lv' := [(4, .int (zI (i12 + 1))), (2, .int (zI n12)), (3, .int (zI i4)), (0, .ref o), (1, .int (zI g))]) hX0 hB0 dX12_degreeOf_48 hl (k := 1) rfl (zI_add _ _) (by decide) rfl (fun ls hl => ?_)
                refine lv_goto (tgt := 12) hX0 hB0 dX12_degreeOf_51 (by decide) ?_
                exact ih12 (i12 + 1) n12 ⟨⟨by omega, by omega⟩, (zfor_s _ _ _ (by omega)).trans ((congrArg (zm_degreeOf_L12 S g i4 i12) hz12).trans (by unfold zm_degreeOf_L12; exact zlet_e e25 (zif_t c_28 rfl))), by omega, by omega⟩ (by omega) H locs ls hW (lv_sub hl [0, 1, 2, 3, 4] rfl)
              ·
                refine lv_iload_n hX0 hB0 dX12_degreeOf_31 rfl (lv_at hl 2 rfl) ?_
                refine lv_iload hX0 hB0 dX12_degreeOf_32 (lv_at hl 0 rfl) ?_
                refine z_iadd (z := i4 + i12) CX dX12_degreeOf_34 rfl ?_
                refine lv_iload_n hX0 hB0 dX12_degreeOf_35 rfl (lv_at hl 1 rfl) ?_
                refine z_icmp_le (tgt := 46) CX dX12_degreeOf_36 (by decide) (by constructor <;> omega) (by constructor <;> omega) (fun c_36 => ?_) (fun c_36 => ?_)
                ·
                  refine lv_iload_n hX0 hB0 dX12_degreeOf_46 rfl (lv_at hl 1 rfl) ?_
                  refine lv_istore_n (lv' := [(2, .int (zI n12)), (4, .int (zI i12)), (3, .int (zI i4)), (0, .ref o), (1, .int (zI g))]) hX0 hB0 dX12_degreeOf_47 rfl hl (by decide) rfl (fun ls hl => ?_)
                  refine lv_iinc (v := zI (i12 + 1)) (lv' := [(4, .int (zI (i12 + 1))), (2, .int (zI n12)), (3, .int (zI i4)), (0, .ref o), (1, .int (zI g))]) hX0 hB0 dX12_degreeOf_48 hl (k := 1) rfl (zI_add _ _) (by decide) rfl (fun ls hl => ?_)
                  refine lv_goto (tgt := 12) hX0 hB0 dX12_degreeOf_51 (by decide) ?_
                  exact ih12 (i12 + 1) n12 ⟨⟨by omega, by omega⟩, (zfor_s _ _ _ (by omega)).trans ((congrArg (zm_degreeOf_L12 S g i4 i12) hz12).trans (by unfold zm_degreeOf_L12; exact zlet_e e25 (zif_f c_28 (zif_t c_36 rfl)))), by omega, by omega⟩ (by omega) H locs ls hW (lv_sub hl [0, 1, 2, 3, 4] rfl)
                ·
                  have d_36 : ¬ i4 + i12 ≤ n12 := by omega
                  refine lv_iload_n hX0 hB0 dX12_degreeOf_39 rfl (lv_at hl 2 rfl) ?_
                  refine lv_iload hX0 hB0 dX12_degreeOf_40 (lv_at hl 0 rfl) ?_
                  refine z_iadd (z := i4 + i12) CX dX12_degreeOf_42 rfl ?_
                  refine lv_goto (tgt := 47) hX0 hB0 dX12_degreeOf_43 (by decide) ?_
                  refine lv_istore_n (lv' := [(2, .int (zI (i4 + i12))), (4, .int (zI i12)), (3, .int (zI i4)), (0, .ref o), (1, .int (zI g))]) hX0 hB0 dX12_degreeOf_47 rfl hl (by decide) rfl (fun ls hl => ?_)
                  refine lv_iinc (v := zI (i12 + 1)) (lv' := [(4, .int (zI (i12 + 1))), (2, .int (zI (i4 + i12))), (3, .int (zI i4)), (0, .ref o), (1, .int (zI g))]) hX0 hB0 dX12_degreeOf_48 hl (k := 1) rfl (zI_add _ _) (by decide) rfl (fun ls hl => ?_)
                  refine lv_goto (tgt := 12) hX0 hB0 dX12_degreeOf_51 (by decide) ?_
                  exact ih12 (i12 + 1) (i4 + i12) ⟨⟨by omega, by omega⟩, (zfor_s _ _ _ (by omega)).trans ((congrArg (zm_degreeOf_L12 S g i4 i12) hz12).trans (by unfold zm_degreeOf_L12; exact zlet_e e25 (zif_f c_28 (zif_f d_36 rfl)))), by omega, by omega⟩ (by omega) H locs ls hW (lv_sub hl [0, 1, 2, 3, 4] rfl)
        exact hL12 _ 0 n4 ⟨⟨by omega, by omega⟩, zfor_0 _ _ _, by omega, by omega⟩ (Nat.lt_succ_self _) H locs ls hW (lv_sub hl [0, 2, 1, 3, 4] rfl)
  exact hL4 _ 0 (-1) ⟨⟨by omega, by omega⟩, zfor_0 _ _ _, by omega, by omega⟩ (Nat.lt_succ_self _) H locs ls hW (lv_sub hl [0, 1, 2, 3] rfl)
def zm_adds_L12 (to : Int) (from_ : Int) (by_ : Int) (i3 : Int) : Int → zS2 → zS2 := fun i12 s12 => (fun (S12 : zS2) => zlet (zm_cell S12 to i3 i12) (fun z30 => zlet (zm_cell S12 from_ i3 i12) (fun z41 => zlet (zm_sets S12 to i3 i12 (z30 + (by_ * z41))) (fun S47 => S47)))) s12
def zm_adds_L3 (to : Int) (from_ : Int) (by_ : Int) : Int → zS2 → zS2 := fun i3 s3 => (fun (S3 : zS2) => zlet (zfor (zm_adds_L12 to from_ by_ i3) 0 S3 (4 + 1 - 0 : Int).toNat) (fun S12 => S12)) s3
def zm_adds (S : zS2) (to : Int) (from_ : Int) (by_ : Int) : zS2 := zlet (zfor (zm_adds_L3 to from_ by_) 0 S (4 + 1 - 0 : Int).toNat) (fun S3 => S3)
set_option maxRecDepth 100000 in
set_option maxHeartbeats 4000000 in
theorem zk_adds (l : Launch) {D : va_G} {cI cJ cZ cP cS cM : ClassId} {L : List Nat} {sz : Nat} {f : Nat → va_E} (o : Nat) (S : zS2) (to : Int) (from_ : Int) (by_ : Int) (hI : mI S) (hto : 0 ≤ to ∧ to ≤ 238) (hfrom_ : 0 ≤ from_ ∧ from_ ≤ 238) (hby_ : -1000 ≤ by_ ∧ by_ ≤ 1000) : zMv l yX12_adds wsX12_adds 2 49 D (zT cI cJ cZ cP cS cM) L sz (zMO cI cJ o S f) [.ref o, .int (zI to), .int (zI from_), .long (zL by_)] (fun gv => gv = zMO cI cJ o (zm_adds S to from_ by_) f ∧ mI (zm_adds S to from_ by_) ∧ (∀ kk ii : Nat, ¬ (kk = 3 ∧ 25 * to ≤ (ii : Int)) → (zm_adds S to from_ by_) kk ii = S kk ii) ∧ True) := by
  refine zWalk.met (nL := 7) (ret := none) (cc := cX12_adds) (by decide) rfl (Nat.le_of_ble_eq_true rfl) ?_
  intro pg en st mi ag bl mt cd ls CX hW hl
  have CX : zC pg st mi ag mt cd cX12_adds 7 none RX12 wsX12_adds := CX
  generalize hQ : MQ bl _ ag st 0 0 _ = Q
  have hX0 := CX.1
  have hB0 := CX.2.1
  have hl : lv_has ls 7 [(0, .ref o), (1, .int (zI to)), (2, .int (zI from_)), (3, .long (zL by_))] := hl
  obtain ⟨H, eH⟩ : ∃ H, H = st.heap := ⟨_, rfl⟩
  obtain ⟨locs, eL⟩ : ∃ L : List Loc, L = [] := ⟨_, rfl⟩
  have hW : zW D (zT cI cJ cZ cP cS cM) L (zQ L sz) st (zMO cI cJ o S f) st.heap H locs := by rw [eH, eL]; exact hW
  suffices hgo : W pg l en ({ frames := 2, cells := 0, slots := 0, locals := 49 } : Room) st mi ag bl mt cd H locs 0 0 Q (F0 mi 0 ls []) by rw [eH, eL] at hgo; exact hgo
  clear eH eL
  have hpb := hI.s10
  refine lv_iconst (v := zI 0) hX0 hB0 dX12_adds_0 rfl ?_
  refine lv_istore (lv' := [(5, .int (zI 0)), (0, .ref o), (1, .int (zI to)), (2, .int (zI from_)), (3, .long (zL by_))]) hX0 hB0 dX12_adds_1 hl (by decide) rfl (fun ls hl => ?_)
  have hL3 : ∀ (fu : Nat) (i3 : Int) (S3 : zS2), ((0 ≤ i3 ∧ i3 ≤ 4 + 1) ∧ zfor (zm_adds_L3 to from_ by_) 0 S (i3 - 0).toNat = S3 ∧ mI S3 ∧ (∀ kk ii : Nat, ¬ (kk = 3 ∧ 25 * to ≤ (ii : Int)) → S3 kk ii = S kk ii)) → (4 + 1 - i3).toNat < fu → ∀ (H : Heap) (locs : List Loc) (ls : Array Slot), zW D (zT cI cJ cZ cP cS cM) L (zQ L sz) st (zMO cI cJ o S3 f) st.heap H locs → lv_has ls 7 [(5, .int (zI i3)), (0, .ref o), (1, .int (zI to)), (2, .int (zI from_)), (3, .long (zL by_))] → W pg l en ({ frames := 2, cells := 0, slots := 0, locals := 49 } : Room) st mi ag bl mt cd H locs 0 0 Q (F0 mi 3 ls []) := by
    intro fu
    induction fu with
    | zero => intro i3 S3 _ hfu; exact absurd hfu (Nat.not_lt_zero _)
    | succ fu ih3 =>
      intro i3 S3 hinv hfu3 H locs ls hW hl
      obtain ⟨⟨hlo3, hhi3⟩, hz3, hI3, hf3⟩ := hinv
      have hp3 := hI3.s10
      refine lv_iload hX0 hB0 dX12_adds_3 (lv_at hl 0 rfl) ?_
      refine lv_iconst (v := zI 4) hX0 hB0 dX12_adds_5 rfl ?_
      refine z_icmp_gt (tgt := 62) CX dX12_adds_6 (by decide) (by constructor <;> omega) (by constructor <;> omega) (fun c_6 => ?_) (fun c_6 => ?_)
      ·
        have e3 : zfor (zm_adds_L3 to from_ by_) 0 S (4 + 1 - 0 : Int).toNat = S3 := by rw [show (4 + 1 - 0 : Int).toNat = (i3 - 0).toNat by omega]; exact hz3
        have hE : zm_adds S to from_ by_ = S3 := by unfold zm_adds; exact zlet_e e3 rfl
        have hFr : ∀ kk ii : Nat, ¬ (kk = 3 ∧ 25 * to ≤ (ii : Int)) → S3 kk ii = S kk ii := fun kk ii hk => (hf3 kk ii (by omega))
        rw [← hQ]
        exact z_vret CX hW (by rw [hE]; exact ⟨rfl, hI3, hFr, trivial⟩) dX12_adds_62
      ·
        refine lv_iconst (v := zI 0) hX0 hB0 dX12_adds_9 rfl ?_
        refine lv_istore (lv' := [(6, .int (zI 0)), (5, .int (zI i3)), (0, .ref o), (1, .int (zI to)), (2, .int (zI from_)), (3, .long (zL by_))]) hX0 hB0 dX12_adds_10 hl (by decide) rfl (fun ls hl => ?_)
        have hL12 : ∀ (fu : Nat) (i12 : Int) (S12 : zS2), ((0 ≤ i12 ∧ i12 ≤ 4 + 1) ∧ zfor (zm_adds_L12 to from_ by_ i3) 0 S3 (i12 - 0).toNat = S12 ∧ mI S12 ∧ (∀ kk ii : Nat, ¬ (kk = 3 ∧ 25 * to ≤ (ii : Int)) → S12 kk ii = S3 kk ii)) → (4 + 1 - i12).toNat < fu → ∀ (H : Heap) (locs : List Loc) (ls : Array Slot), zW D (zT cI cJ cZ cP cS cM) L (zQ L sz) st (zMO cI cJ o S12 f) st.heap H locs → lv_has ls 7 [(6, .int (zI i12)), (5, .int (zI i3)), (0, .ref o), (1, .int (zI to)), (2, .int (zI from_)), (3, .long (zL by_))] → W pg l en ({ frames := 2, cells := 0, slots := 0, locals := 49 } : Room) st mi ag bl mt cd H locs 0 0 Q (F0 mi 12 ls []) := by
          intro fu
          induction fu with
          | zero => intro i12 S12 _ hfu; exact absurd hfu (Nat.not_lt_zero _)
          | succ fu ih12 =>
            intro i12 S12 hinv hfu12 H locs ls hW hl
            obtain ⟨⟨hlo12, hhi12⟩, hz12, hI12, hf12⟩ := hinv
            have hp12 := hI12.s10
            refine lv_iload hX0 hB0 dX12_adds_12 (lv_at hl 0 rfl) ?_
            refine lv_iconst (v := zI 4) hX0 hB0 dX12_adds_14 rfl ?_
            refine z_icmp_gt (tgt := 56) CX dX12_adds_15 (by decide) (by constructor <;> omega) (by constructor <;> omega) (fun c_15 => ?_) (fun c_15 => ?_)
            ·
              have e12 : zfor (zm_adds_L12 to from_ by_ i3) 0 S3 (4 + 1 - 0 : Int).toNat = S12 := by rw [show (4 + 1 - 0 : Int).toNat = (i12 - 0).toNat by omega]; exact hz12
              refine lv_iinc (v := zI (i3 + 1)) (lv' := [(5, .int (zI (i3 + 1))), (6, .int (zI i12)), (0, .ref o), (1, .int (zI to)), (2, .int (zI from_)), (3, .long (zL by_))]) hX0 hB0 dX12_adds_56 hl (k := 1) rfl (zI_add _ _) (by decide) rfl (fun ls hl => ?_)
              refine lv_goto (tgt := 3) hX0 hB0 dX12_adds_59 (by decide) ?_
              exact ih3 (i3 + 1) S12 ⟨⟨by omega, by omega⟩, (zfor_s _ _ _ (by omega)).trans ((congrArg (zm_adds_L3 to from_ by_ i3) hz3).trans (by unfold zm_adds_L3; exact zlet_e e12 rfl)), hI12, fun kk ii hk => ((hf12 kk ii (by omega))).trans (hf3 kk ii (by omega))⟩ (by omega) H locs ls hW (lv_sub hl [0, 2, 3, 4, 5] rfl)
            ·
              refine lv_aload_n hX0 hB0 dX12_adds_18 rfl (lv_at hl 2 rfl) ?_
              refine lv_iload_n hX0 hB0 dX12_adds_19 rfl (lv_at hl 3 rfl) ?_
              refine lv_iload hX0 hB0 dX12_adds_20 (lv_at hl 1 rfl) ?_
              refine lv_iload hX0 hB0 dX12_adds_22 (lv_at hl 0 rfl) ?_
              refine lv_aload_n hX0 hB0 dX12_adds_24 rfl (lv_at hl 2 rfl) ?_
              refine lv_iload_n hX0 hB0 dX12_adds_25 rfl (lv_at hl 3 rfl) ?_
              refine lv_iload hX0 hB0 dX12_adds_26 (lv_at hl 1 rfl) ?_
              refine lv_iload hX0 hB0 dX12_adds_28 (lv_at hl 0 rfl) ?_
              refine z_calli hW (va_runV (C := RX12) (As := [.int (zI to), .int (zI i3), .int (zI i12)]) (rest := [.int (zI i12), .int (zI i3), .int (zI to), .ref o]) CX.fix (zk_cell l o S12 to i3 i12 hI12 (by constructor <;> omega) (by constructor <;> omega) (by constructor <;> omega)) (cwV 3 CX.fix.2.2.2.2 gX12_adds_X12_cell rfl rfl rfl (by decide +kernel) ⟨Nat.le_of_ble_eq_true rfl, Nat.le_of_ble_eq_true rfl⟩) (z_preV CX hW (r := (RX12, TX12, 37)) zMO_0 rfl) rfl rfl hl.1 rfl (lv_room (Nat.le_of_ble_eq_true rfl)) dX12_adds_30 ⟨Nat.zero_le _, Nat.zero_le _⟩) (fun z30 gn H locs hok hW => ?_)
              obtain ⟨hz30, hg, hq30⟩ := hok
              rw [hg] at hW
              clear hg
              have e30 : zm_cell S12 to i3 i12 = z30 := hz30.symm
              clear hz30
              refine z_i2l CX dX12_adds_33 (by constructor <;> omega) ?_
              refine lv_lload_n hX0 hB0 dX12_adds_34 rfl (lv_at hl 5 rfl) ?_
              refine lv_aload_n hX0 hB0 dX12_adds_35 rfl (lv_at hl 2 rfl) ?_
              refine lv_iload_n hX0 hB0 dX12_adds_36 rfl (lv_at hl 4 rfl) ?_
              refine lv_iload hX0 hB0 dX12_adds_37 (lv_at hl 1 rfl) ?_
              refine lv_iload hX0 hB0 dX12_adds_39 (lv_at hl 0 rfl) ?_
              refine z_calli hW (va_runV (C := RX12) (As := [.int (zI from_), .int (zI i3), .int (zI i12)]) (rest := [.long (zL by_), .long (zL z30), .int (zI i12), .int (zI i3), .int (zI to), .ref o]) CX.fix (zk_cell l o S12 from_ i3 i12 hI12 (by constructor <;> omega) (by constructor <;> omega) (by constructor <;> omega)) (cwV 3 CX.fix.2.2.2.2 gX12_adds_X12_cell rfl rfl rfl (by decide +kernel) ⟨Nat.le_of_ble_eq_true rfl, Nat.le_of_ble_eq_true rfl⟩) (z_preV CX hW (r := (RX12, TX12, 37)) zMO_0 rfl) rfl rfl hl.1 rfl (lv_room (Nat.le_of_ble_eq_true rfl)) dX12_adds_41 ⟨Nat.zero_le _, Nat.zero_le _⟩) (fun z41 gn H locs hok hW => ?_)
              obtain ⟨hz41, hg, hq41⟩ := hok
              rw [hg] at hW
              clear hg
              have e41 : zm_cell S12 from_ i3 i12 = z41 := hz41.symm
              clear hz41
              refine z_i2l CX dX12_adds_44 (by constructor <;> omega) ?_
              refine z_lmul (z := by_ * z41) CX dX12_adds_45 rfl ?_
              have hm45 := zbox_mul (a := by_) (b := z41) (A := 1000) (B := 30) (by constructor <;> omega) (by constructor <;> omega) (C := 30000) (by decide)
              refine z_ladd (z := z30 + (by_ * z41)) CX dX12_adds_46 rfl ?_
              refine z_callv hW (va_runV (C := RX12) (As := [.int (zI to), .int (zI i3), .int (zI i12), .long (zL (z30 + (by_ * z41)))]) (rest := []) CX.fix (zk_sets l o S12 to i3 i12 (z30 + (by_ * z41)) hI12 (by constructor <;> omega) (by constructor <;> omega) (by constructor <;> omega) (by constructor <;> omega)) (cwV 4 CX.fix.2.2.2.2 gX12_adds_X12_sets rfl rfl rfl (by decide +kernel) ⟨Nat.le_of_ble_eq_true rfl, Nat.le_of_ble_eq_true rfl⟩) (z_preV CX hW (r := (RX12, TX12, 37)) zMO_0 rfl) rfl rfl hl.1 rfl (lv_room (Nat.le_of_ble_eq_true rfl)) dX12_adds_47 ⟨Nat.zero_le _, Nat.zero_le _⟩) (fun gn H locs hok hW => ?_)
              obtain ⟨hg, hI47, hf47, hq47⟩ := hok
              obtain ⟨S47, e47⟩ : ∃ q, zm_sets S12 to i3 i12 (z30 + (by_ * z41)) = q := ⟨_, rfl⟩
              rw [e47] at hg hI47 hf47
              skip
              try rw [e47] at hq47
              rw [hg] at hW
              clear hg
              refine lv_iinc (v := zI (i12 + 1)) (lv' := [(6, .int (zI (i12 + 1))), (5, .int (zI i3)), (0, .ref o), (1, .int (zI to)), (2, .int (zI from_)), (3, .long (zL by_))]) hX0 hB0 dX12_adds_50 hl (k := 0) rfl (zI_add _ _) (by decide) rfl (fun ls hl => ?_)
              refine lv_goto (tgt := 12) hX0 hB0 dX12_adds_53 (by decide) ?_
              exact ih12 (i12 + 1) S47 ⟨⟨by omega, by omega⟩, (zfor_s _ _ _ (by omega)).trans ((congrArg (zm_adds_L12 to from_ by_ i3 i12) hz12).trans (by unfold zm_adds_L12; exact zlet_e e30 (zlet_e e41 (zlet_e e47 rfl)))), hI47, fun kk ii hk => ((hf47 kk ii (by omega))).trans (hf12 kk ii (by omega))⟩ (by omega) H locs ls hW (lv_sub hl [0, 1, 2, 3, 4, 5] rfl)
        exact hL12 _ 0 S3 ⟨⟨by omega, by omega⟩, zfor_0 _ _ _, hI3, fun kk ii hk => rfl⟩ (Nat.lt_succ_self _) H locs ls hW (lv_sub hl [0, 1, 2, 3, 4, 5] rfl)
  exact hL3 _ 0 S ⟨⟨by omega, by omega⟩, zfor_0 _ _ _, hI, fun kk ii hk => rfl⟩ (Nat.lt_succ_self _) H locs ls hW (lv_sub hl [0, 1, 2, 3, 4] rfl)
def zm_multiplies_L3  : Int → zS2 → zS2 := fun i3 s3 => (fun (S3 : zS2) => zlet (za S3 4 i3.toNat 0) (fun S17 => S17)) s3
def zm_multiplies_L72 (a : Int) (b : Int) (i27 : Int) (i36 : Int) (i63 : Int) : Int → zS2 → zS2 := fun i72 s72 => (fun (S72 : zS2) => zlet (zm_cell S72 a i27 i36) (fun z107 => zlet (zm_cell S72 b i63 i72) (fun z117 => zlet (za S72 4 ((((9 * (i27 + i63)) + i36) + i72).toNat) ((S72 4 ((((9 * (i27 + i63)) + i36) + i72).toNat)) + (z107 * z117))) (fun S123 => S123)))) s72
def zm_multiplies_L63 (a : Int) (b : Int) (i27 : Int) (i36 : Int) : Int → zS2 → zS2 := fun i63 s63 => (fun (S63 : zS2) => zlet (zfor (zm_multiplies_L72 a b i27 i36 i63) 0 S63 ((4 - i63) + 1 - 0).toNat) (fun S72 => S72)) s63
def zm_multiplies_L36 (a : Int) (b : Int) (i27 : Int) : Int → zS2 → zS2 := fun i36 s36 => (fun (S36 : zS2) => zlet (zm_cell S36 a i27 i36) (fun z51 => (if z51 = 0 then S36 else zlet (zfor (zm_multiplies_L63 a b i27 i36) 0 S36 (4 + 1 - 0 : Int).toNat) (fun S63 => S63)))) s36
def zm_multiplies_L27 (a : Int) (b : Int) : Int → zS2 → zS2 := fun i27 s27 => (fun (S27 : zS2) => zlet (zfor (zm_multiplies_L36 a b i27) 0 S27 ((4 - i27) + 1 - 0).toNat) (fun S36 => S36)) s27
def zm_multiplies_W161 (S27 : zS2) (i151 : Int) : Nat → Int → (Int × zS2) ⊕ Int
  | 0, j161 => .inr j161
  | fu161 + 1, j161 => (if 9 ≤ j161 then .inr j161 else (if i151 + j161 ≤ 4 then zm_multiplies_W161 S27 i151 fu161 (j161 + 1) else (if Int.tmod (S27 4 (((9 * i151) + j161).toNat)) (S27 0 10) = 0 then zm_multiplies_W161 S27 i151 fu161 (j161 + 1) else .inl ((0, S27)))))
def zm_multiplies_W151 (S27 : zS2) : Nat → Int → (Int × zS2) ⊕ Int
  | 0, i151 => .inr i151
  | fu151 + 1, i151 => (if 9 ≤ i151 then .inr i151 else zsum (zm_multiplies_W161 S27 i151 ((10 : Nat)) 0) (fun r161 => .inl r161) (fun j161 => zm_multiplies_W151 S27 fu151 (i151 + 1)))
def zm_multiplies_L232 (to : Int) (i223 : Int) : Int → zS2 → zS2 := fun i232 s232 => (fun (S232 : zS2) => zlet (zm_sets S232 to i223 i232 (S232 4 (((9 * i223) + i232).toNat))) (fun S260 => S260)) s232
def zm_multiplies_L223 (to : Int) : Int → zS2 → zS2 := fun i223 s223 => (fun (S223 : zS2) => zlet (zfor (zm_multiplies_L232 to i223) 0 S223 ((4 - i223) + 1 - 0).toNat) (fun S232 => S232)) s223
def zm_multiplies (S : zS2) (to : Int) (a : Int) (b : Int) : Int × zS2 := zlet (zfor (zm_multiplies_L3) 0 S (80 + 1 - 0 : Int).toNat) (fun S3 => zlet (zfor (zm_multiplies_L27 a b) 0 S3 (4 + 1 - 0 : Int).toNat) (fun S27 => zsum (zm_multiplies_W151 S27 ((10 : Nat)) 0) (fun r151 => r151) (fun i151 => zlet (zm_empties S27 to) (fun S217 => zlet (zfor (zm_multiplies_L223 to) 0 S217 (4 + 1 - 0 : Int).toNat) (fun S223 => (1, S223))))))
set_option maxRecDepth 100000 in
set_option maxHeartbeats 4000000 in
theorem zk_multiplies (l : Launch) {D : va_G} {cI cJ cZ cP cS cM : ClassId} {L : List Nat} {sz : Nat} {f : Nat → va_E} (o : Nat) (S : zS2) (to : Int) (a : Int) (b : Int) (hI : mI S) (hto : 0 ≤ to ∧ to ≤ 238) (ha : 0 ≤ a ∧ a ≤ 238) (hb : 0 ≤ b ∧ b ≤ 238) : zMi l yX12_multiplies wsX12_multiplies 2 49 D (zT cI cJ cZ cP cS cM) L sz (zMO cI cJ o S f) [.ref o, .int (zI to), .int (zI a), .int (zI b)] (fun zv gv => zv = (zm_multiplies S to a b).1 ∧ gv = zMO cI cJ o (zm_multiplies S to a b).2 f ∧ mI (zm_multiplies S to a b).2 ∧ (∀ kk ii : Nat, ¬ (kk = 3 ∧ 25 * to ≤ (ii : Int)) ∧ ¬ kk = 4 → (zm_multiplies S to a b).2 kk ii = S kk ii) ∧ 0 ≤ zv ∧ zv ≤ 1) := by
  refine zWalk.met (nL := 8) (ret := (some .boolean)) (cc := cX12_multiplies) (by decide) rfl (Nat.le_of_ble_eq_true rfl) ?_
  intro pg en st mi ag bl mt cd ls CX hW hl
  have CX : zC pg st mi ag mt cd cX12_multiplies 8 (some .boolean) RX12 wsX12_multiplies := CX
  generalize hQ : MQ bl _ ag st 0 0 _ = Q
  have hX0 := CX.1
  have hB0 := CX.2.1
  have hl : lv_has ls 8 [(0, .ref o), (1, .int (zI to)), (2, .int (zI a)), (3, .int (zI b))] := hl
  obtain ⟨H, eH⟩ : ∃ H, H = st.heap := ⟨_, rfl⟩
  obtain ⟨locs, eL⟩ : ∃ L : List Loc, L = [] := ⟨_, rfl⟩
  have hW : zW D (zT cI cJ cZ cP cS cM) L (zQ L sz) st (zMO cI cJ o S f) st.heap H locs := by rw [eH, eL]; exact hW
  suffices hgo : W pg l en ({ frames := 2, cells := 0, slots := 0, locals := 49 } : Room) st mi ag bl mt cd H locs 0 0 Q (F0 mi 0 ls []) by rw [eH, eL] at hgo; exact hgo
  clear eH eL
  have hpb := hI.s10
  refine lv_iconst (v := zI 0) hX0 hB0 dX12_multiplies_0 rfl ?_
  refine lv_istore (lv' := [(4, .int (zI 0)), (0, .ref o), (1, .int (zI to)), (2, .int (zI a)), (3, .int (zI b))]) hX0 hB0 dX12_multiplies_1 hl (by decide) rfl (fun ls hl => ?_)
  have hL3 : ∀ (fu : Nat) (i3 : Int) (S3 : zS2), ((0 ≤ i3 ∧ i3 ≤ 80 + 1) ∧ zfor (zm_multiplies_L3) 0 S (i3 - 0).toNat = S3 ∧ mI S3 ∧ (∀ kk ii : Nat, ¬ kk = 4 → S3 kk ii = S kk ii) ∧ (∀ q : Nat, (q : Int) < i3 → S3 4 q = 0)) → (80 + 1 - i3).toNat < fu → ∀ (H : Heap) (locs : List Loc) (ls : Array Slot), zW D (zT cI cJ cZ cP cS cM) L (zQ L sz) st (zMO cI cJ o S3 f) st.heap H locs → lv_has ls 8 [(4, .int (zI i3)), (0, .ref o), (1, .int (zI to)), (2, .int (zI a)), (3, .int (zI b))] → W pg l en ({ frames := 2, cells := 0, slots := 0, locals := 49 } : Room) st mi ag bl mt cd H locs 0 0 Q (F0 mi 3 ls []) := by
    intro fu
    induction fu with
    | zero => intro i3 S3 _ hfu; exact absurd hfu (Nat.not_lt_zero _)
    | succ fu ih3 =>
      intro i3 S3 hinv hfu3 H locs ls hW hl
      obtain ⟨⟨hlo3, hhi3⟩, hz3, hI3, hf3, hv3⟩ := hinv
      have hp3 := hI3.s10
      refine lv_iload hX0 hB0 dX12_multiplies_3 (lv_at hl 0 rfl) ?_
      refine lv_bipush (v := zI 81) hX0 hB0 dX12_multiplies_5 (by decide) ?_
      refine z_icmp_ge (tgt := 24) CX dX12_multiplies_7 (by decide) (by constructor <;> omega) (by constructor <;> omega) (fun c_7 => ?_) (fun c_7 => ?_)
      ·
        have e3 : zfor (zm_multiplies_L3) 0 S (80 + 1 - 0 : Int).toNat = S3 := by rw [show (80 + 1 - 0 : Int).toNat = (i3 - 0).toNat by omega]; exact hz3
        refine lv_iconst (v := zI 0) hX0 hB0 dX12_multiplies_24 rfl ?_
        refine lv_istore (lv' := [(4, .int (zI 0)), (0, .ref o), (1, .int (zI to)), (2, .int (zI a)), (3, .int (zI b))]) hX0 hB0 dX12_multiplies_25 hl (by decide) rfl (fun ls hl => ?_)
        have hL27 : ∀ (fu : Nat) (i27 : Int) (S27 : zS2), ((0 ≤ i27 ∧ i27 ≤ 4 + 1) ∧ zfor (zm_multiplies_L27 a b) 0 S3 (i27 - 0).toNat = S27 ∧ mI S27 ∧ (∀ kk ii : Nat, ¬ kk = 4 → S27 kk ii = S3 kk ii) ∧ (∀ q : Nat, q < 81 → 0 ≤ S27 4 q ∧ S27 4 q ≤ 112500 * i27)) → (4 + 1 - i27).toNat < fu → ∀ (H : Heap) (locs : List Loc) (ls : Array Slot), zW D (zT cI cJ cZ cP cS cM) L (zQ L sz) st (zMO cI cJ o S27 f) st.heap H locs → lv_has ls 8 [(4, .int (zI i27)), (0, .ref o), (1, .int (zI to)), (2, .int (zI a)), (3, .int (zI b))] → W pg l en ({ frames := 2, cells := 0, slots := 0, locals := 49 } : Room) st mi ag bl mt cd H locs 0 0 Q (F0 mi 27 ls []) := by
          intro fu
          induction fu with
          | zero => intro i27 S27 _ hfu; exact absurd hfu (Nat.not_lt_zero _)
          | succ fu ih27 =>
            intro i27 S27 hinv hfu27 H locs ls hW hl
            obtain ⟨⟨hlo27, hhi27⟩, hz27, hI27, hf27, hv27⟩ := hinv
            have hp27 := hI27.s10
            refine lv_iload hX0 hB0 dX12_multiplies_27 (lv_at hl 0 rfl) ?_
            refine lv_iconst (v := zI 4) hX0 hB0 dX12_multiplies_29 rfl ?_
            refine z_icmp_gt (tgt := 148) CX dX12_multiplies_30 (by decide) (by constructor <;> omega) (by constructor <;> omega) (fun c_30 => ?_) (fun c_30 => ?_)
            ·
              have e27 : zfor (zm_multiplies_L27 a b) 0 S3 (4 + 1 - 0 : Int).toNat = S27 := by rw [show (4 + 1 - 0 : Int).toNat = (i27 - 0).toNat by omega]; exact hz27
              refine lv_iconst (v := zI 0) hX0 hB0 dX12_multiplies_148 rfl ?_
              refine lv_istore (lv' := [(4, .int (zI 0)), (0, .ref o), (1, .int (zI to)), (2, .int (zI a)), (3, .int (zI b))]) hX0 hB0 dX12_multiplies_149 hl (by decide) rfl (fun ls hl => ?_)
              have hXt151 : ∀ (i151 : Int), (zm_multiplies_W151 S27 ((10 : Nat)) 0 = .inr i151 ∧ 0 ≤ i151 ∧ i151 ≤ 9) → ∀ (H : Heap) (locs : List Loc) (ls : Array Slot), zW D (zT cI cJ cZ cP cS cM) L (zQ L sz) st (zMO cI cJ o S27 f) st.heap H locs → lv_has ls 8 [(4, .int (zI i151)), (0, .ref o), (1, .int (zI to)), (2, .int (zI a)), (3, .int (zI b))] → W pg l en ({ frames := 2, cells := 0, slots := 0, locals := 49 } : Room) st mi ag bl mt cd H locs 0 0 Q (F0 mi 215 ls []) := by
                intro i151 hinv H locs ls hW hl
                obtain ⟨e151, hai151, hbi151⟩ := hinv
                refine lv_aload_n hX0 hB0 dX12_multiplies_215 rfl (lv_at hl 1 rfl) ?_
                refine lv_iload_n hX0 hB0 dX12_multiplies_216 rfl (lv_at hl 2 rfl) ?_
                refine z_callv hW (va_runV (C := RX12) (As := [.int (zI to)]) (rest := []) CX.fix (zk_empties l o S27 to hI27 (by constructor <;> omega)) (cwV 1 CX.fix.2.2.2.2 gX12_multiplies_X12_empties rfl rfl rfl (by decide +kernel) ⟨Nat.le_of_ble_eq_true rfl, Nat.le_of_ble_eq_true rfl⟩) (z_preV CX hW (r := (RX12, TX12, 37)) zMO_0 rfl) rfl rfl hl.1 rfl (lv_room (Nat.le_of_ble_eq_true rfl)) dX12_multiplies_217 ⟨Nat.zero_le _, Nat.zero_le _⟩) (fun gn H locs hok hW => ?_)
                obtain ⟨hg, hI217, hf217, hq217⟩ := hok
                obtain ⟨S217, e217⟩ : ∃ q, zm_empties S27 to = q := ⟨_, rfl⟩
                rw [e217] at hg hI217 hf217
                skip
                try rw [e217] at hq217
                rw [hg] at hW
                clear hg
                refine lv_iconst (v := zI 0) hX0 hB0 dX12_multiplies_220 rfl ?_
                refine lv_istore (lv' := [(4, .int (zI 0)), (0, .ref o), (1, .int (zI to)), (2, .int (zI a)), (3, .int (zI b))]) hX0 hB0 dX12_multiplies_221 hl (by decide) rfl (fun ls hl => ?_)
                have hL223 : ∀ (fu : Nat) (i223 : Int) (S223 : zS2), ((0 ≤ i223 ∧ i223 ≤ 4 + 1) ∧ zfor (zm_multiplies_L223 to) 0 S217 (i223 - 0).toNat = S223 ∧ mI S223 ∧ (∀ kk ii : Nat, ¬ (kk = 3 ∧ 25 * to ≤ (ii : Int)) → S223 kk ii = S217 kk ii)) → (4 + 1 - i223).toNat < fu → ∀ (H : Heap) (locs : List Loc) (ls : Array Slot), zW D (zT cI cJ cZ cP cS cM) L (zQ L sz) st (zMO cI cJ o S223 f) st.heap H locs → lv_has ls 8 [(4, .int (zI i223)), (0, .ref o), (1, .int (zI to)), (2, .int (zI a)), (3, .int (zI b))] → W pg l en ({ frames := 2, cells := 0, slots := 0, locals := 49 } : Room) st mi ag bl mt cd H locs 0 0 Q (F0 mi 223 ls []) := by
                  intro fu
                  induction fu with
                  | zero => intro i223 S223 _ hfu; exact absurd hfu (Nat.not_lt_zero _)
                  | succ fu ih223 =>
                    intro i223 S223 hinv hfu223 H locs ls hW hl
                    obtain ⟨⟨hlo223, hhi223⟩, hz223, hI223, hf223⟩ := hinv
                    have hp223 := hI223.s10
                    refine lv_iload hX0 hB0 dX12_multiplies_223 (lv_at hl 0 rfl) ?_
                    refine lv_iconst (v := zI 4) hX0 hB0 dX12_multiplies_225 rfl ?_
                    refine z_icmp_gt (tgt := 275) CX dX12_multiplies_226 (by decide) (by constructor <;> omega) (by constructor <;> omega) (fun c_226 => ?_) (fun c_226 => ?_)
                    ·
                      have e223 : zfor (zm_multiplies_L223 to) 0 S217 (4 + 1 - 0 : Int).toNat = S223 := by rw [show (4 + 1 - 0 : Int).toNat = (i223 - 0).toNat by omega]; exact hz223
                      refine lv_iconst (v := zI 1) hX0 hB0 dX12_multiplies_275 rfl ?_
                      have hE : zm_multiplies S to a b = (1, S223) := by unfold zm_multiplies; exact zlet_e e3 (zlet_e e27 (zsum_r e151 (zlet_e e217 (zlet_e e223 rfl))))
                      have hFr : ∀ kk ii : Nat, ¬ (kk = 3 ∧ 25 * to ≤ (ii : Int)) ∧ ¬ kk = 4 → S223 kk ii = S kk ii := fun kk ii hk => ((((hf223 kk ii (by omega))).trans (hf217 kk ii (by omega))).trans (hf27 kk ii (by omega))).trans (hf3 kk ii (by omega))
                      rw [← hQ]
                      exact z_iret (z := 1) CX hW (by rw [hE]; exact ⟨rfl, rfl, hI223, hFr, (show 0 ≤ (1 : Int) ∧ (1 : Int) ≤ 1 from by omega)⟩) rfl dX12_multiplies_276
                    ·
                      refine lv_iconst (v := zI 0) hX0 hB0 dX12_multiplies_229 rfl ?_
                      refine lv_istore (lv' := [(5, .int (zI 0)), (4, .int (zI i223)), (0, .ref o), (1, .int (zI to)), (2, .int (zI a)), (3, .int (zI b))]) hX0 hB0 dX12_multiplies_230 hl (by decide) rfl (fun ls hl => ?_)
                      have hL232 : ∀ (fu : Nat) (i232 : Int) (S232 : zS2), ((0 ≤ i232 ∧ i232 ≤ 4 - i223 + 1) ∧ zfor (zm_multiplies_L232 to i223) 0 S223 (i232 - 0).toNat = S232 ∧ mI S232 ∧ (∀ kk ii : Nat, ¬ (kk = 3 ∧ 25 * to ≤ (ii : Int)) → S232 kk ii = S223 kk ii)) → ((4 - i223) + 1 - i232).toNat < fu → ∀ (H : Heap) (locs : List Loc) (ls : Array Slot), zW D (zT cI cJ cZ cP cS cM) L (zQ L sz) st (zMO cI cJ o S232 f) st.heap H locs → lv_has ls 8 [(5, .int (zI i232)), (4, .int (zI i223)), (0, .ref o), (1, .int (zI to)), (2, .int (zI a)), (3, .int (zI b))] → W pg l en ({ frames := 2, cells := 0, slots := 0, locals := 49 } : Room) st mi ag bl mt cd H locs 0 0 Q (F0 mi 232 ls []) := by
                        intro fu
                        induction fu with
                        | zero => intro i232 S232 _ hfu; exact absurd hfu (Nat.not_lt_zero _)
                        | succ fu ih232 =>
                          intro i232 S232 hinv hfu232 H locs ls hW hl
                          obtain ⟨⟨hlo232, hhi232⟩, hz232, hI232, hf232⟩ := hinv
                          have hp232 := hI232.s10
                          refine lv_iload hX0 hB0 dX12_multiplies_232 (lv_at hl 1 rfl) ?_
                          refine lv_iload hX0 hB0 dX12_multiplies_234 (lv_at hl 0 rfl) ?_
                          refine z_iadd (z := i223 + i232) CX dX12_multiplies_236 rfl ?_
                          refine lv_iconst (v := zI 4) hX0 hB0 dX12_multiplies_237 rfl ?_
                          refine z_icmp_gt (tgt := 269) CX dX12_multiplies_238 (by decide) (by constructor <;> omega) (by constructor <;> omega) (fun c_238 => ?_) (fun c_238 => ?_)
                          ·
                            have e232 : zfor (zm_multiplies_L232 to i223) 0 S223 ((4 - i223) + 1 - 0).toNat = S232 := by rw [show ((4 - i223) + 1 - 0).toNat = (i232 - 0).toNat by omega]; exact hz232
                            refine lv_iinc (v := zI (i223 + 1)) (lv' := [(4, .int (zI (i223 + 1))), (5, .int (zI i232)), (0, .ref o), (1, .int (zI to)), (2, .int (zI a)), (3, .int (zI b))]) hX0 hB0 dX12_multiplies_269 hl (k := 1) rfl (zI_add _ _) (by decide) rfl (fun ls hl => ?_)
                            refine lv_goto (tgt := 223) hX0 hB0 dX12_multiplies_272 (by decide) ?_
                            exact ih223 (i223 + 1) S232 ⟨⟨by omega, by omega⟩, (zfor_s _ _ _ (by omega)).trans ((congrArg (zm_multiplies_L223 to i223) hz223).trans (by unfold zm_multiplies_L223; exact zlet_e e232 rfl)), hI232, fun kk ii hk => ((hf232 kk ii (by omega))).trans (hf223 kk ii (by omega))⟩ (by omega) H locs ls hW (lv_sub hl [0, 2, 3, 4, 5] rfl)
                          ·
                            refine lv_aload_n hX0 hB0 dX12_multiplies_241 rfl (lv_at hl 2 rfl) ?_
                            refine lv_iload_n hX0 hB0 dX12_multiplies_242 rfl (lv_at hl 3 rfl) ?_
                            refine lv_iload hX0 hB0 dX12_multiplies_243 (lv_at hl 1 rfl) ?_
                            refine lv_iload hX0 hB0 dX12_multiplies_245 (lv_at hl 0 rfl) ?_
                            refine lv_aload_n hX0 hB0 dX12_multiplies_247 rfl (lv_at hl 2 rfl) ?_
                            refine z_get (Cn := RX12) (T := TX12) (N := 37) CX hW (v := .ref (o + 4)) zMO_0 rfl (fun w h => List.mem_cons_of_mem _ (List.mem_append_right _ h)) 12 (by decide) (List.mem_of_getElem? (i := 1) rfl) rfl rfl dX12_multiplies_248 ?_
                            refine lv_bipush (v := zI 9) hX0 hB0 dX12_multiplies_251 (by decide) ?_
                            refine lv_iload hX0 hB0 dX12_multiplies_253 (lv_at hl 1 rfl) ?_
                            refine z_imul (z := 9 * i223) CX dX12_multiplies_255 rfl ?_
                            refine lv_iload hX0 hB0 dX12_multiplies_256 (lv_at hl 0 rfl) ?_
                            refine z_iadd (z := (9 * i223) + i232) CX dX12_multiplies_258 rfl ?_
                            refine z_lald (z := S232 4 (((9 * i223) + i232).toNat)) CX hW zMO_4 1 rfl (by refine ⟨?_, ?_, ?_⟩ <;> omega) rfl dX12_multiplies_259 ?_
                            have hr259 := hI232.r4 (((9 * i223) + i232).toNat)
                            refine z_callv hW (va_runV (C := RX12) (As := [.int (zI to), .int (zI i223), .int (zI i232), .long (zL (S232 4 (((9 * i223) + i232).toNat)))]) (rest := []) CX.fix (zk_sets l o S232 to i223 i232 (S232 4 (((9 * i223) + i232).toNat)) hI232 (by constructor <;> omega) (by constructor <;> omega) (by constructor <;> omega) (by constructor <;> omega)) (cwV 4 CX.fix.2.2.2.2 gX12_multiplies_X12_sets rfl rfl rfl (by decide +kernel) ⟨Nat.le_of_ble_eq_true rfl, Nat.le_of_ble_eq_true rfl⟩) (z_preV CX hW (r := (RX12, TX12, 37)) zMO_0 rfl) rfl rfl hl.1 rfl (lv_room (Nat.le_of_ble_eq_true rfl)) dX12_multiplies_260 ⟨Nat.zero_le _, Nat.zero_le _⟩) (fun gn H locs hok hW => ?_)
                            obtain ⟨hg, hI260, hf260, hq260⟩ := hok
                            obtain ⟨S260, e260⟩ : ∃ q, zm_sets S232 to i223 i232 (S232 4 (((9 * i223) + i232).toNat)) = q := ⟨_, rfl⟩
                            rw [e260] at hg hI260 hf260
                            skip
                            try rw [e260] at hq260
                            rw [hg] at hW
                            clear hg
                            refine lv_iinc (v := zI (i232 + 1)) (lv' := [(5, .int (zI (i232 + 1))), (4, .int (zI i223)), (0, .ref o), (1, .int (zI to)), (2, .int (zI a)), (3, .int (zI b))]) hX0 hB0 dX12_multiplies_263 hl (k := 0) rfl (zI_add _ _) (by decide) rfl (fun ls hl => ?_)
                            refine lv_goto (tgt := 232) hX0 hB0 dX12_multiplies_266 (by decide) ?_
                            exact ih232 (i232 + 1) S260 ⟨⟨by omega, by omega⟩, (zfor_s _ _ _ (by omega)).trans ((congrArg (zm_multiplies_L232 to i223 i232) hz232).trans (by unfold zm_multiplies_L232; exact zlet_e e260 rfl)), hI260, fun kk ii hk => ((hf260 kk ii (by omega))).trans (hf232 kk ii (by omega))⟩ (by omega) H locs ls hW (lv_sub hl [0, 1, 2, 3, 4, 5] rfl)
                      exact hL232 _ 0 S223 ⟨⟨by omega, by omega⟩, zfor_0 _ _ _, hI223, fun kk ii hk => rfl⟩ (Nat.lt_succ_self _) H locs ls hW (lv_sub hl [0, 1, 2, 3, 4, 5] rfl)
                exact hL223 _ 0 S217 ⟨⟨by omega, by omega⟩, zfor_0 _ _ _, hI217, fun kk ii hk => rfl⟩ (Nat.lt_succ_self _) H locs ls hW (lv_sub hl [0, 1, 2, 3, 4] rfl)
              have hL151 : ∀ (fu : Nat) (i151 : Int), (zm_multiplies_W151 S27 ((10 : Nat)) 0 = zm_multiplies_W151 S27 fu i151 ∧ 0 ≤ i151 ∧ i151 ≤ 9) → (9 - i151).toNat < fu → ∀ (H : Heap) (locs : List Loc) (ls : Array Slot), zW D (zT cI cJ cZ cP cS cM) L (zQ L sz) st (zMO cI cJ o S27 f) st.heap H locs → lv_has ls 8 [(4, .int (zI i151)), (0, .ref o), (1, .int (zI to)), (2, .int (zI a)), (3, .int (zI b))] → W pg l en ({ frames := 2, cells := 0, slots := 0, locals := 49 } : Room) st mi ag bl mt cd H locs 0 0 Q (F0 mi 151 ls []) := by
                intro fu
                induction fu with
                | zero => intro i151 _ hfu; exact absurd hfu (Nat.not_lt_zero _)
                | succ fu ih151 =>
                  intro i151 hinv hfu151 H locs ls hW hl
                  obtain ⟨hz151, hai151, hbi151⟩ := hinv
                  refine lv_iload hX0 hB0 dX12_multiplies_151 (lv_at hl 0 rfl) ?_
                  refine lv_bipush (v := zI 9) hX0 hB0 dX12_multiplies_153 (by decide) ?_
                  refine z_icmp_ge (tgt := 215) CX dX12_multiplies_155 (by decide) (by constructor <;> omega) (by constructor <;> omega) (fun c_155 => ?_) (fun c_155 => ?_)
                  ·
                    exact hXt151 i151 ⟨hz151.trans (by rw [zm_multiplies_W151]; exact zif_t c_155 rfl), by omega, by omega⟩ H locs ls hW (lv_sub hl [0, 1, 2, 3, 4] rfl)
                  ·
                    have d_155 : ¬ 9 ≤ i151 := by omega
                    refine lv_iconst (v := zI 0) hX0 hB0 dX12_multiplies_158 rfl ?_
                    refine lv_istore (lv' := [(5, .int (zI 0)), (4, .int (zI i151)), (0, .ref o), (1, .int (zI to)), (2, .int (zI a)), (3, .int (zI b))]) hX0 hB0 dX12_multiplies_159 hl (by decide) rfl (fun ls hl => ?_)
                    have hXt161 : ∀ (j161 : Int), (zm_multiplies_W161 S27 i151 ((10 : Nat)) 0 = .inr j161 ∧ 0 ≤ j161 ∧ j161 ≤ 9) → ∀ (H : Heap) (locs : List Loc) (ls : Array Slot), zW D (zT cI cJ cZ cP cS cM) L (zQ L sz) st (zMO cI cJ o S27 f) st.heap H locs → lv_has ls 8 [(5, .int (zI j161)), (4, .int (zI i151)), (0, .ref o), (1, .int (zI to)), (2, .int (zI a)), (3, .int (zI b))] → W pg l en ({ frames := 2, cells := 0, slots := 0, locals := 49 } : Room) st mi ag bl mt cd H locs 0 0 Q (F0 mi 209 ls []) := by
                      intro j161 hinv H locs ls hW hl
                      obtain ⟨e161, haj161, hbj161⟩ := hinv
                      refine lv_iinc (v := zI (i151 + 1)) (lv' := [(4, .int (zI (i151 + 1))), (5, .int (zI j161)), (0, .ref o), (1, .int (zI to)), (2, .int (zI a)), (3, .int (zI b))]) hX0 hB0 dX12_multiplies_209 hl (k := 1) rfl (zI_add _ _) (by decide) rfl (fun ls hl => ?_)
                      refine lv_goto (tgt := 151) hX0 hB0 dX12_multiplies_212 (by decide) ?_
                      exact ih151 (i151 + 1) ⟨hz151.trans (by rw [zm_multiplies_W151]; exact zif_f d_155 (zsum_r e161 rfl)), by omega, by omega⟩ (by omega) H locs ls hW (lv_sub hl [0, 2, 3, 4, 5] rfl)
                    have hL161 : ∀ (fu : Nat) (j161 : Int), (zm_multiplies_W161 S27 i151 ((10 : Nat)) 0 = zm_multiplies_W161 S27 i151 fu j161 ∧ 0 ≤ j161 ∧ j161 ≤ 9) → (9 - j161).toNat < fu → ∀ (H : Heap) (locs : List Loc) (ls : Array Slot), zW D (zT cI cJ cZ cP cS cM) L (zQ L sz) st (zMO cI cJ o S27 f) st.heap H locs → lv_has ls 8 [(5, .int (zI j161)), (4, .int (zI i151)), (0, .ref o), (1, .int (zI to)), (2, .int (zI a)), (3, .int (zI b))] → W pg l en ({ frames := 2, cells := 0, slots := 0, locals := 49 } : Room) st mi ag bl mt cd H locs 0 0 Q (F0 mi 161 ls []) := by
                      intro fu
                      induction fu with
                      | zero => intro j161 _ hfu; exact absurd hfu (Nat.not_lt_zero _)
                      | succ fu ih161 =>
                        intro j161 hinv hfu161 H locs ls hW hl
                        obtain ⟨hz161, haj161, hbj161⟩ := hinv
                        refine lv_iload hX0 hB0 dX12_multiplies_161 (lv_at hl 0 rfl) ?_
                        refine lv_bipush (v := zI 9) hX0 hB0 dX12_multiplies_163 (by decide) ?_
                        refine z_icmp_ge (tgt := 209) CX dX12_multiplies_165 (by decide) (by constructor <;> omega) (by constructor <;> omega) (fun c_165 => ?_) (fun c_165 => ?_)
                        ·
                          exact hXt161 j161 ⟨hz161.trans (by rw [zm_multiplies_W161]; exact zif_t c_165 rfl), by omega, by omega⟩ H locs ls hW (lv_sub hl [0, 1, 2, 3, 4, 5] rfl)
                        ·
                          have d_165 : ¬ 9 ≤ j161 := by omega
                          refine lv_iload hX0 hB0 dX12_multiplies_168 (lv_at hl 1 rfl) ?_
                          refine lv_iload hX0 hB0 dX12_multiplies_170 (lv_at hl 0 rfl) ?_
                          refine z_iadd (z := i151 + j161) CX dX12_multiplies_172 rfl ?_
                          refine lv_iconst (v := zI 4) hX0 hB0 dX12_multiplies_173 rfl ?_
                          refine z_icmp_le (tgt := 203) CX dX12_multiplies_174 (by decide) (by constructor <;> omega) (by constructor <;> omega) (fun c_174 => ?_) (fun c_174 => ?_)
                          ·
                            refine lv_iinc (v := zI (j161 + 1)) (lv' := [(5, .int (zI (j161 + 1))), (4, .int (zI i151)), (0, .ref o), (1, .int (zI to)), (2, .int (zI a)), (3, .int (zI b))]) hX0 hB0 dX12_multiplies_203 hl (k := 0) rfl (zI_add _ _) (by decide) rfl (fun ls hl => ?_)
                            refine lv_goto (tgt := 161) hX0 hB0 dX12_multiplies_206 (by decide) ?_
                            exact ih161 (j161 + 1) ⟨hz161.trans (by rw [zm_multiplies_W161]; exact zif_f d_165 (zif_t c_174 rfl)), by omega, by omega⟩ (by omega) H locs ls hW (lv_sub hl [0, 1, 2, 3, 4, 5] rfl)
                          ·
                            have d_174 : ¬ i151 + j161 ≤ 4 := by omega
                            refine lv_aload_n hX0 hB0 dX12_multiplies_177 rfl (lv_at hl 2 rfl) ?_
                            refine z_get (Cn := RX12) (T := TX12) (N := 37) CX hW (v := .ref (o + 4)) zMO_0 rfl (fun w h => List.mem_cons_of_mem _ (List.mem_append_right _ h)) 12 (by decide) (List.mem_of_getElem? (i := 1) rfl) rfl rfl dX12_multiplies_178 ?_
                            refine lv_bipush (v := zI 9) hX0 hB0 dX12_multiplies_181 (by decide) ?_
                            refine lv_iload hX0 hB0 dX12_multiplies_183 (lv_at hl 1 rfl) ?_
                            refine z_imul (z := 9 * i151) CX dX12_multiplies_185 rfl ?_
                            refine lv_iload hX0 hB0 dX12_multiplies_186 (lv_at hl 0 rfl) ?_
                            refine z_iadd (z := (9 * i151) + j161) CX dX12_multiplies_188 rfl ?_
                            refine z_lald (z := S27 4 (((9 * i151) + j161).toNat)) CX hW zMO_4 1 rfl (by refine ⟨?_, ?_, ?_⟩ <;> omega) rfl dX12_multiplies_189 ?_
                            have hr189 := hI27.r4 (((9 * i151) + j161).toNat)
                            refine lv_aload_n hX0 hB0 dX12_multiplies_190 rfl (lv_at hl 2 rfl) ?_
                            refine z_get (Cn := RX12) (T := TX12) (N := 37) CX hW (v := .int (zI (S27 0 10))) zMO_0 rfl (fun w h => List.mem_cons_of_mem _ (List.mem_append_right _ h)) 10 (by decide) (List.mem_of_getElem? (i := 2) rfl) rfl rfl dX12_multiplies_191 ?_
                            have hr191 := hI27.s10
                            refine z_i2l CX dX12_multiplies_194 (by constructor <;> omega) ?_
                            refine z_lrem (z := Int.tmod (S27 4 (((9 * i151) + j161).toNat)) (S27 0 10)) CX dX12_multiplies_195 (by constructor <;> omega) (by constructor <;> omega) rfl ?_
                            have ht195 := ztm0 (n := S27 4 (((9 * i151) + j161).toNat)) (p := S27 0 10) (by omega) (by omega)
                            refine lv_lconst (v := zL 0) hX0 hB0 dX12_multiplies_196 rfl ?_
                            refine z_lcmp CX dX12_multiplies_197 (by constructor <;> omega) (by constructor <;> omega) ?_
                            have hcm197 := zcmp_rng (Int.tmod (S27 4 (((9 * i151) + j161).toNat)) (S27 0 10)) 0
                            refine z_if_eq (tgt := 203) CX dX12_multiplies_198 (by decide) (by constructor <;> omega) (fun c_198 => ?_) (fun c_198 => ?_)
                            ·
                              simp only [zcmp_lt, zcmp_le, zcmp_gt, zcmp_ge, zcmp_eq] at c_198
                              refine lv_iinc (v := zI (j161 + 1)) (lv' := [(5, .int (zI (j161 + 1))), (4, .int (zI i151)), (0, .ref o), (1, .int (zI to)), (2, .int (zI a)), (3, .int (zI b))]) hX0 hB0 dX12_multiplies_203 hl (k := 0) rfl (zI_add _ _) (by decide) rfl (fun ls hl => ?_)
                              refine lv_goto (tgt := 161) hX0 hB0 dX12_multiplies_206 (by decide) ?_
                              exact ih161 (j161 + 1) ⟨hz161.trans (by rw [zm_multiplies_W161]; exact zif_f d_165 (zif_f d_174 (zif_t c_198 rfl))), by omega, by omega⟩ (by omega) H locs ls hW (lv_sub hl [0, 1, 2, 3, 4, 5] rfl)
                            ·
                              simp only [zcmp_lt, zcmp_le, zcmp_gt, zcmp_ge, zcmp_eq] at c_198
                              refine lv_iconst (v := zI 0) hX0 hB0 dX12_multiplies_201 rfl ?_
                              have hE : zm_multiplies S to a b = (0, S27) := by unfold zm_multiplies; exact zlet_e e3 (zlet_e e27 (zsum_l (hz151.trans (by rw [zm_multiplies_W151]; exact zif_f d_155 (zsum_l (hz161.trans (by rw [zm_multiplies_W161]; exact zif_f d_165 (zif_f d_174 (zif_f c_198 rfl)))) rfl))) rfl))
                              have hFr : ∀ kk ii : Nat, ¬ (kk = 3 ∧ 25 * to ≤ (ii : Int)) ∧ ¬ kk = 4 → S27 kk ii = S kk ii := fun kk ii hk => ((hf27 kk ii (by omega))).trans (hf3 kk ii (by omega))
                              rw [← hQ]
                              exact z_iret (z := 0) CX hW (by rw [hE]; exact ⟨rfl, rfl, hI27, hFr, (show 0 ≤ (0 : Int) ∧ (0 : Int) ≤ 1 from by omega)⟩) rfl dX12_multiplies_202
                    exact hL161 _ 0 ⟨rfl, by omega, by omega⟩ (by omega) H locs ls hW (lv_sub hl [0, 1, 2, 3, 4, 5] rfl)
              exact hL151 _ 0 ⟨rfl, by omega, by omega⟩ (by omega) H locs ls hW (lv_sub hl [0, 1, 2, 3, 4] rfl)
            ·
              refine lv_iconst (v := zI 0) hX0 hB0 dX12_multiplies_33 rfl ?_
              refine lv_istore (lv' := [(5, .int (zI 0)), (4, .int (zI i27)), (0, .ref o), (1, .int (zI to)), (2, .int (zI a)), (3, .int (zI b))]) hX0 hB0 dX12_multiplies_34 hl (by decide) rfl (fun ls hl => ?_)
              have hL36 : ∀ (fu : Nat) (i36 : Int) (S36 : zS2), ((0 ≤ i36 ∧ i36 ≤ 4 - i27 + 1) ∧ zfor (zm_multiplies_L36 a b i27) 0 S27 (i36 - 0).toNat = S36 ∧ mI S36 ∧ (∀ kk ii : Nat, ¬ kk = 4 → S36 kk ii = S27 kk ii) ∧ (∀ q : Nat, q < 81 → 0 ≤ S36 4 q ∧ S36 4 q ≤ 112500 * i27 + 22500 * i36)) → ((4 - i27) + 1 - i36).toNat < fu → ∀ (H : Heap) (locs : List Loc) (ls : Array Slot), zW D (zT cI cJ cZ cP cS cM) L (zQ L sz) st (zMO cI cJ o S36 f) st.heap H locs → lv_has ls 8 [(5, .int (zI i36)), (4, .int (zI i27)), (0, .ref o), (1, .int (zI to)), (2, .int (zI a)), (3, .int (zI b))] → W pg l en ({ frames := 2, cells := 0, slots := 0, locals := 49 } : Room) st mi ag bl mt cd H locs 0 0 Q (F0 mi 36 ls []) := by
                intro fu
                induction fu with
                | zero => intro i36 S36 _ hfu; exact absurd hfu (Nat.not_lt_zero _)
                | succ fu ih36 =>
                  intro i36 S36 hinv hfu36 H locs ls hW hl
                  obtain ⟨⟨hlo36, hhi36⟩, hz36, hI36, hf36, hv36⟩ := hinv
                  have hp36 := hI36.s10
                  refine lv_iload hX0 hB0 dX12_multiplies_36 (lv_at hl 1 rfl) ?_
                  refine lv_iload hX0 hB0 dX12_multiplies_38 (lv_at hl 0 rfl) ?_
                  refine z_iadd (z := i27 + i36) CX dX12_multiplies_40 rfl ?_
                  refine lv_iconst (v := zI 4) hX0 hB0 dX12_multiplies_41 rfl ?_
                  refine z_icmp_gt (tgt := 142) CX dX12_multiplies_42 (by decide) (by constructor <;> omega) (by constructor <;> omega) (fun c_42 => ?_) (fun c_42 => ?_)
                  ·
                    have e36 : zfor (zm_multiplies_L36 a b i27) 0 S27 ((4 - i27) + 1 - 0).toNat = S36 := by rw [show ((4 - i27) + 1 - 0).toNat = (i36 - 0).toNat by omega]; exact hz36
                    refine lv_iinc (v := zI (i27 + 1)) (lv' := [(4, .int (zI (i27 + 1))), (5, .int (zI i36)), (0, .ref o), (1, .int (zI to)), (2, .int (zI a)), (3, .int (zI b))]) hX0 hB0 dX12_multiplies_142 hl (k := 1) rfl (zI_add _ _) (by decide) rfl (fun ls hl => ?_)
                    refine lv_goto (tgt := 27) hX0 hB0 dX12_multiplies_145 (by decide) ?_
                    exact ih27 (i27 + 1) S36 ⟨⟨by omega, by omega⟩, (zfor_s _ _ _ (by omega)).trans ((congrArg (zm_multiplies_L27 a b i27) hz27).trans (by unfold zm_multiplies_L27; exact zlet_e e36 rfl)), hI36, fun kk ii hk => ((hf36 kk ii (by omega))).trans (hf27 kk ii (by omega)), fun q hq => by have := hv36 q hq; omega⟩ (by omega) H locs ls hW (lv_sub hl [0, 2, 3, 4, 5] rfl)
                  ·
                    refine lv_aload_n hX0 hB0 dX12_multiplies_45 rfl (lv_at hl 2 rfl) ?_
                    refine lv_iload_n hX0 hB0 dX12_multiplies_46 rfl (lv_at hl 4 rfl) ?_
                    refine lv_iload hX0 hB0 dX12_multiplies_47 (lv_at hl 1 rfl) ?_
                    refine lv_iload hX0 hB0 dX12_multiplies_49 (lv_at hl 0 rfl) ?_
                    refine z_calli hW (va_runV (C := RX12) (As := [.int (zI a), .int (zI i27), .int (zI i36)]) (rest := []) CX.fix (zk_cell l o S36 a i27 i36 hI36 (by constructor <;> omega) (by constructor <;> omega) (by constructor <;> omega)) (cwV 3 CX.fix.2.2.2.2 gX12_multiplies_X12_cell rfl rfl rfl (by decide +kernel) ⟨Nat.le_of_ble_eq_true rfl, Nat.le_of_ble_eq_true rfl⟩) (z_preV CX hW (r := (RX12, TX12, 37)) zMO_0 rfl) rfl rfl hl.1 rfl (lv_room (Nat.le_of_ble_eq_true rfl)) dX12_multiplies_51 ⟨Nat.zero_le _, Nat.zero_le _⟩) (fun z51 gn H locs hok hW => ?_)
                    obtain ⟨hz51, hg, hq51⟩ := hok
                    rw [hg] at hW
                    clear hg
                    have e51 : zm_cell S36 a i27 i36 = z51 := hz51.symm
                    clear hz51
                    refine z_if_ne (tgt := 60) CX dX12_multiplies_54 (by decide) (by constructor <;> omega) (fun c_54 => ?_) (fun c_54 => ?_)
                    ·
                      refine lv_iconst (v := zI 0) hX0 hB0 dX12_multiplies_60 rfl ?_
                      refine lv_istore (lv' := [(6, .int (zI 0)), (5, .int (zI i36)), (4, .int (zI i27)), (0, .ref o), (1, .int (zI to)), (2, .int (zI a)), (3, .int (zI b))]) hX0 hB0 dX12_multiplies_61 hl (by decide) rfl (fun ls hl => ?_)
                      have hL63 : ∀ (fu : Nat) (i63 : Int) (S63 : zS2), ((0 ≤ i63 ∧ i63 ≤ 4 + 1) ∧ zfor (zm_multiplies_L63 a b i27 i36) 0 S36 (i63 - 0).toNat = S63 ∧ mI S63 ∧ (∀ kk ii : Nat, ¬ kk = 4 → S63 kk ii = S36 kk ii) ∧ (∀ q : Nat, q < 81 → 0 ≤ S63 4 q ∧ S63 4 q ≤ 112500 * i27 + 22500 * i36 + 4500 * i63)) → (4 + 1 - i63).toNat < fu → ∀ (H : Heap) (locs : List Loc) (ls : Array Slot), zW D (zT cI cJ cZ cP cS cM) L (zQ L sz) st (zMO cI cJ o S63 f) st.heap H locs → lv_has ls 8 [(6, .int (zI i63)), (5, .int (zI i36)), (4, .int (zI i27)), (0, .ref o), (1, .int (zI to)), (2, .int (zI a)), (3, .int (zI b))] → W pg l en ({ frames := 2, cells := 0, slots := 0, locals := 49 } : Room) st mi ag bl mt cd H locs 0 0 Q (F0 mi 63 ls []) := by
                        intro fu
                        induction fu with
                        | zero => intro i63 S63 _ hfu; exact absurd hfu (Nat.not_lt_zero _)
                        | succ fu ih63 =>
                          intro i63 S63 hinv hfu63 H locs ls hW hl
                          obtain ⟨⟨hlo63, hhi63⟩, hz63, hI63, hf63, hv63⟩ := hinv
                          have hp63 := hI63.s10
                          refine lv_iload hX0 hB0 dX12_multiplies_63 (lv_at hl 0 rfl) ?_
                          refine lv_iconst (v := zI 4) hX0 hB0 dX12_multiplies_65 rfl ?_
                          refine z_icmp_gt (tgt := 136) CX dX12_multiplies_66 (by decide) (by constructor <;> omega) (by constructor <;> omega) (fun c_66 => ?_) (fun c_66 => ?_)
                          ·
                            have e63 : zfor (zm_multiplies_L63 a b i27 i36) 0 S36 (4 + 1 - 0 : Int).toNat = S63 := by rw [show (4 + 1 - 0 : Int).toNat = (i63 - 0).toNat by omega]; exact hz63
                            refine lv_iinc (v := zI (i36 + 1)) (lv' := [(5, .int (zI (i36 + 1))), (6, .int (zI i63)), (4, .int (zI i27)), (0, .ref o), (1, .int (zI to)), (2, .int (zI a)), (3, .int (zI b))]) hX0 hB0 dX12_multiplies_136 hl (k := 1) rfl (zI_add _ _) (by decide) rfl (fun ls hl => ?_)
                            refine lv_goto (tgt := 36) hX0 hB0 dX12_multiplies_139 (by decide) ?_
                            exact ih36 (i36 + 1) S63 ⟨⟨by omega, by omega⟩, (zfor_s _ _ _ (by omega)).trans ((congrArg (zm_multiplies_L36 a b i27 i36) hz36).trans (by unfold zm_multiplies_L36; exact zlet_e e51 (zif_f c_54 (zlet_e e63 rfl)))), hI63, fun kk ii hk => ((hf63 kk ii (by omega))).trans (hf36 kk ii (by omega)), fun q hq => by first | (have := hv63 q hq; omega) | (have := hv36 q hq; omega)⟩ (by omega) H locs ls hW (lv_sub hl [0, 2, 3, 4, 5, 6] rfl)
                          ·
                            refine lv_iconst (v := zI 0) hX0 hB0 dX12_multiplies_69 rfl ?_
                            refine lv_istore (lv' := [(7, .int (zI 0)), (6, .int (zI i63)), (5, .int (zI i36)), (4, .int (zI i27)), (0, .ref o), (1, .int (zI to)), (2, .int (zI a)), (3, .int (zI b))]) hX0 hB0 dX12_multiplies_70 hl (by decide) rfl (fun ls hl => ?_)
                            have hL72 : ∀ (fu : Nat) (i72 : Int) (S72 : zS2), ((0 ≤ i72 ∧ i72 ≤ 4 - i63 + 1) ∧ zfor (zm_multiplies_L72 a b i27 i36 i63) 0 S63 (i72 - 0).toNat = S72 ∧ mI S72 ∧ (∀ kk ii : Nat, ¬ kk = 4 → S72 kk ii = S63 kk ii) ∧ (∀ q : Nat, q < 81 → 0 ≤ S72 4 q ∧ S72 4 q ≤ 112500 * i27 + 22500 * i36 + 4500 * i63 + 900 * i72)) → ((4 - i63) + 1 - i72).toNat < fu → ∀ (H : Heap) (locs : List Loc) (ls : Array Slot), zW D (zT cI cJ cZ cP cS cM) L (zQ L sz) st (zMO cI cJ o S72 f) st.heap H locs → lv_has ls 8 [(7, .int (zI i72)), (6, .int (zI i63)), (5, .int (zI i36)), (4, .int (zI i27)), (0, .ref o), (1, .int (zI to)), (2, .int (zI a)), (3, .int (zI b))] → W pg l en ({ frames := 2, cells := 0, slots := 0, locals := 49 } : Room) st mi ag bl mt cd H locs 0 0 Q (F0 mi 72 ls []) := by
                              intro fu
                              induction fu with
                              | zero => intro i72 S72 _ hfu; exact absurd hfu (Nat.not_lt_zero _)
                              | succ fu ih72 =>
                                intro i72 S72 hinv hfu72 H locs ls hW hl
                                obtain ⟨⟨hlo72, hhi72⟩, hz72, hI72, hf72, hv72⟩ := hinv
                                have hp72 := hI72.s10
                                refine lv_iload hX0 hB0 dX12_multiplies_72 (lv_at hl 1 rfl) ?_
                                refine lv_iload hX0 hB0 dX12_multiplies_74 (lv_at hl 0 rfl) ?_
                                refine z_iadd (z := i63 + i72) CX dX12_multiplies_76 rfl ?_
                                refine lv_iconst (v := zI 4) hX0 hB0 dX12_multiplies_77 rfl ?_
                                refine z_icmp_gt (tgt := 130) CX dX12_multiplies_78 (by decide) (by constructor <;> omega) (by constructor <;> omega) (fun c_78 => ?_) (fun c_78 => ?_)
                                ·
                                  have e72 : zfor (zm_multiplies_L72 a b i27 i36 i63) 0 S63 ((4 - i63) + 1 - 0).toNat = S72 := by rw [show ((4 - i63) + 1 - 0).toNat = (i72 - 0).toNat by omega]; exact hz72
                                  refine lv_iinc (v := zI (i63 + 1)) (lv' := [(6, .int (zI (i63 + 1))), (7, .int (zI i72)), (5, .int (zI i36)), (4, .int (zI i27)), (0, .ref o), (1, .int (zI to)), (2, .int (zI a)), (3, .int (zI b))]) hX0 hB0 dX12_multiplies_130 hl (k := 1) rfl (zI_add _ _) (by decide) rfl (fun ls hl => ?_)
                                  refine lv_goto (tgt := 63) hX0 hB0 dX12_multiplies_133 (by decide) ?_
                                  exact ih63 (i63 + 1) S72 ⟨⟨by omega, by omega⟩, (zfor_s _ _ _ (by omega)).trans ((congrArg (zm_multiplies_L63 a b i27 i36 i63) hz63).trans (by unfold zm_multiplies_L63; exact zlet_e e72 rfl)), hI72, fun kk ii hk => ((hf72 kk ii (by omega))).trans (hf63 kk ii (by omega)), fun q hq => by have := hv72 q hq; omega⟩ (by omega) H locs ls hW (lv_sub hl [0, 2, 3, 4, 5, 6, 7] rfl)
                                ·
                                  refine lv_aload_n hX0 hB0 dX12_multiplies_81 rfl (lv_at hl 4 rfl) ?_
                                  refine z_get (Cn := RX12) (T := TX12) (N := 37) CX hW (v := .ref (o + 4)) zMO_0 rfl (fun w h => List.mem_cons_of_mem _ (List.mem_append_right _ h)) 12 (by decide) (List.mem_of_getElem? (i := 1) rfl) rfl rfl dX12_multiplies_82 ?_
                                  refine lv_bipush (v := zI 9) hX0 hB0 dX12_multiplies_85 (by decide) ?_
                                  refine lv_iload hX0 hB0 dX12_multiplies_87 (lv_at hl 3 rfl) ?_
                                  refine lv_iload hX0 hB0 dX12_multiplies_89 (lv_at hl 1 rfl) ?_
                                  refine z_iadd (z := i27 + i63) CX dX12_multiplies_91 rfl ?_
                                  refine z_imul (z := 9 * (i27 + i63)) CX dX12_multiplies_92 rfl ?_
                                  refine lv_iload hX0 hB0 dX12_multiplies_93 (lv_at hl 2 rfl) ?_
                                  refine z_iadd (z := (9 * (i27 + i63)) + i36) CX dX12_multiplies_95 rfl ?_
                                  refine lv_iload hX0 hB0 dX12_multiplies_96 (lv_at hl 0 rfl) ?_
                                  refine z_iadd (z := ((9 * (i27 + i63)) + i36) + i72) CX dX12_multiplies_98 rfl ?_
                                  refine lv_dup2_11 hX0 hB0 dX12_multiplies_99 rfl rfl ?_
                                  refine z_lald (z := S72 4 ((((9 * (i27 + i63)) + i36) + i72).toNat)) CX hW zMO_4 1 rfl (by refine ⟨?_, ?_, ?_⟩ <;> omega) rfl dX12_multiplies_100 ?_
                                  have hr100 := hI72.r4 ((((9 * (i27 + i63)) + i36) + i72).toNat)
                                  refine lv_aload_n hX0 hB0 dX12_multiplies_101 rfl (lv_at hl 4 rfl) ?_
                                  refine lv_iload_n hX0 hB0 dX12_multiplies_102 rfl (lv_at hl 6 rfl) ?_
                                  refine lv_iload hX0 hB0 dX12_multiplies_103 (lv_at hl 3 rfl) ?_
                                  refine lv_iload hX0 hB0 dX12_multiplies_105 (lv_at hl 2 rfl) ?_
                                  refine z_calli hW (va_runV (C := RX12) (As := [.int (zI a), .int (zI i27), .int (zI i36)]) (rest := [.long (zL (S72 4 ((((9 * (i27 + i63)) + i36) + i72).toNat))), .int (zI (((9 * (i27 + i63)) + i36) + i72)), .ref (o + 4)]) CX.fix (zk_cell l o S72 a i27 i36 hI72 (by constructor <;> omega) (by constructor <;> omega) (by constructor <;> omega)) (cwV 3 CX.fix.2.2.2.2 gX12_multiplies_X12_cell rfl rfl rfl (by decide +kernel) ⟨Nat.le_of_ble_eq_true rfl, Nat.le_of_ble_eq_true rfl⟩) (z_preV CX hW (r := (RX12, TX12, 37)) zMO_0 rfl) rfl rfl hl.1 rfl (lv_room (Nat.le_of_ble_eq_true rfl)) dX12_multiplies_107 ⟨Nat.zero_le _, Nat.zero_le _⟩) (fun z107 gn H locs hok hW => ?_)
                                  obtain ⟨hz107, hg, hq107⟩ := hok
                                  rw [hg] at hW
                                  clear hg
                                  have e107 : zm_cell S72 a i27 i36 = z107 := hz107.symm
                                  clear hz107
                                  refine z_i2l CX dX12_multiplies_110 (by constructor <;> omega) ?_
                                  refine lv_aload_n hX0 hB0 dX12_multiplies_111 rfl (lv_at hl 4 rfl) ?_
                                  refine lv_iload_n hX0 hB0 dX12_multiplies_112 rfl (lv_at hl 7 rfl) ?_
                                  refine lv_iload hX0 hB0 dX12_multiplies_113 (lv_at hl 1 rfl) ?_
                                  refine lv_iload hX0 hB0 dX12_multiplies_115 (lv_at hl 0 rfl) ?_
                                  refine z_calli hW (va_runV (C := RX12) (As := [.int (zI b), .int (zI i63), .int (zI i72)]) (rest := [.long (zL z107), .long (zL (S72 4 ((((9 * (i27 + i63)) + i36) + i72).toNat))), .int (zI (((9 * (i27 + i63)) + i36) + i72)), .ref (o + 4)]) CX.fix (zk_cell l o S72 b i63 i72 hI72 (by constructor <;> omega) (by constructor <;> omega) (by constructor <;> omega)) (cwV 3 CX.fix.2.2.2.2 gX12_multiplies_X12_cell rfl rfl rfl (by decide +kernel) ⟨Nat.le_of_ble_eq_true rfl, Nat.le_of_ble_eq_true rfl⟩) (z_preV CX hW (r := (RX12, TX12, 37)) zMO_0 rfl) rfl rfl hl.1 rfl (lv_room (Nat.le_of_ble_eq_true rfl)) dX12_multiplies_117 ⟨Nat.zero_le _, Nat.zero_le _⟩) (fun z117 gn H locs hok hW => ?_)
                                  obtain ⟨hz117, hg, hq117⟩ := hok
                                  rw [hg] at hW
                                  clear hg
                                  have e117 : zm_cell S72 b i63 i72 = z117 := hz117.symm
                                  clear hz117
                                  refine z_i2l CX dX12_multiplies_120 (by constructor <;> omega) ?_
                                  refine z_lmul (z := z107 * z117) CX dX12_multiplies_121 rfl ?_
                                  have hm121 := zbox_mul0 (a := z107) (b := z117) (A := 30) (B := 30) (by constructor <;> omega) (by constructor <;> omega) (C := 900) (by decide)
                                  refine z_ladd (z := (S72 4 ((((9 * (i27 + i63)) + i36) + i72).toNat)) + (z107 * z117)) CX dX12_multiplies_122 rfl ?_
                                  skip
                                  obtain ⟨S123, e123⟩ : ∃ q, za S72 4 ((((9 * (i27 + i63)) + i36) + i72).toNat) ((S72 4 ((((9 * (i27 + i63)) + i36) + i72).toNat)) + (z107 * z117)) = q := ⟨_, rfl⟩
                                  refine z_last CX hW zMO_4 1 rfl (by refine ⟨?_, ?_, ?_⟩ <;> omega) (g := zMO cI cJ o S123 f) (zMO_w4.trans (by rw [← e123]; rfl)) dX12_multiplies_123 (fun H locs hW => ?_)
                                  have hI123 : mI S123 := e123 ▸ hI72.w4 (by have := hv72 (9 * (i27 + i63) + i36 + i72).toNat (by omega); constructor <;> omega)
                                  refine lv_iinc (v := zI (i72 + 1)) (lv' := [(7, .int (zI (i72 + 1))), (6, .int (zI i63)), (5, .int (zI i36)), (4, .int (zI i27)), (0, .ref o), (1, .int (zI to)), (2, .int (zI a)), (3, .int (zI b))]) hX0 hB0 dX12_multiplies_124 hl (k := 0) rfl (zI_add _ _) (by decide) rfl (fun ls hl => ?_)
                                  refine lv_goto (tgt := 72) hX0 hB0 dX12_multiplies_127 (by decide) ?_
                                  exact ih72 (i72 + 1) S123 ⟨⟨by omega, by omega⟩, (zfor_s _ _ _ (by omega)).trans ((congrArg (zm_multiplies_L72 a b i27 i36 i63 i72) hz72).trans (by unfold zm_multiplies_L72; exact zlet_e e107 (zlet_e e117 (zlet_e e123 rfl)))), hI123, fun kk ii hk => ((show S123 kk ii = S72 kk ii from by rw [← e123]; exact za_ne (by omega))).trans (hf72 kk ii (by omega)), fun q hq => by
                                    by_cases e : q = (9 * (i27 + i63) + i36 + i72).toNat
                                    · rw [e, ← e123, za_same]; have := hv72 (9 * (i27 + i63) + i36 + i72).toNat (by omega); omega
                                    · rw [← e123, za_ne (fun h => e h.2)]; have := hv72 q hq; omega⟩ (by omega) H locs ls hW (lv_sub hl [0, 1, 2, 3, 4, 5, 6, 7] rfl)
                            exact hL72 _ 0 S63 ⟨⟨by omega, by omega⟩, zfor_0 _ _ _, hI63, fun kk ii hk => rfl, fun q hq => by have := hv63 q hq; omega⟩ (Nat.lt_succ_self _) H locs ls hW (lv_sub hl [0, 1, 2, 3, 4, 5, 6, 7] rfl)
                      exact hL63 _ 0 S36 ⟨⟨by omega, by omega⟩, zfor_0 _ _ _, hI36, fun kk ii hk => rfl, fun q hq => by have := hv36 q hq; omega⟩ (Nat.lt_succ_self _) H locs ls hW (lv_sub hl [0, 1, 2, 3, 4, 5, 6] rfl)
                    ·
                      refine lv_goto (tgt := 136) hX0 hB0 dX12_multiplies_57 (by decide) ?_
                      refine lv_iinc (v := zI (i36 + 1)) (lv' := [(5, .int (zI (i36 + 1))), (4, .int (zI i27)), (0, .ref o), (1, .int (zI to)), (2, .int (zI a)), (3, .int (zI b))]) hX0 hB0 dX12_multiplies_136 hl (k := 0) rfl (zI_add _ _) (by decide) rfl (fun ls hl => ?_)
                      refine lv_goto (tgt := 36) hX0 hB0 dX12_multiplies_139 (by decide) ?_
                      exact ih36 (i36 + 1) S36 ⟨⟨by omega, by omega⟩, (zfor_s _ _ _ (by omega)).trans ((congrArg (zm_multiplies_L36 a b i27 i36) hz36).trans (by unfold zm_multiplies_L36; exact zlet_e e51 (zif_t c_54 rfl))), hI36, fun kk ii hk => (hf36 kk ii (by omega)), fun q hq => by first | (have := hv63 q hq; omega) | (have := hv36 q hq; omega)⟩ (by omega) H locs ls hW (lv_sub hl [0, 1, 2, 3, 4, 5] rfl)
              exact hL36 _ 0 S27 ⟨⟨by omega, by omega⟩, zfor_0 _ _ _, hI27, fun kk ii hk => rfl, fun q hq => by have := hv27 q hq; omega⟩ (Nat.lt_succ_self _) H locs ls hW (lv_sub hl [0, 1, 2, 3, 4, 5] rfl)
        exact hL27 _ 0 S3 ⟨⟨by omega, by omega⟩, zfor_0 _ _ _, hI3, fun kk ii hk => rfl, fun q hq => by have := hv3 q (by omega); omega⟩ (Nat.lt_succ_self _) H locs ls hW (lv_sub hl [0, 1, 2, 3, 4] rfl)
      ·
        refine lv_aload_n hX0 hB0 dX12_multiplies_10 rfl (lv_at hl 1 rfl) ?_
        refine z_get (Cn := RX12) (T := TX12) (N := 37) CX hW (v := .ref (o + 4)) zMO_0 rfl (fun w h => List.mem_cons_of_mem _ (List.mem_append_right _ h)) 12 (by decide) (List.mem_of_getElem? (i := 1) rfl) rfl rfl dX12_multiplies_11 ?_
        refine lv_iload hX0 hB0 dX12_multiplies_14 (lv_at hl 0 rfl) ?_
        refine lv_lconst (v := zL 0) hX0 hB0 dX12_multiplies_16 rfl ?_
        obtain ⟨S17, e17⟩ : ∃ q, za S3 4 i3.toNat 0 = q := ⟨_, rfl⟩
        refine z_last CX hW zMO_4 1 rfl (by refine ⟨?_, ?_, ?_⟩ <;> omega) (g := zMO cI cJ o S17 f) (zMO_w4.trans (by rw [← e17]; rfl)) dX12_multiplies_17 (fun H locs hW => ?_)
        have hI17 : mI S17 := e17 ▸ hI3.w4 (by constructor <;> omega)
        refine lv_iinc (v := zI (i3 + 1)) (lv' := [(4, .int (zI (i3 + 1))), (0, .ref o), (1, .int (zI to)), (2, .int (zI a)), (3, .int (zI b))]) hX0 hB0 dX12_multiplies_18 hl (k := 0) rfl (zI_add _ _) (by decide) rfl (fun ls hl => ?_)
        refine lv_goto (tgt := 3) hX0 hB0 dX12_multiplies_21 (by decide) ?_
        exact ih3 (i3 + 1) S17 ⟨⟨by omega, by omega⟩, (zfor_s _ _ _ (by omega)).trans ((congrArg (zm_multiplies_L3 i3) hz3).trans (by unfold zm_multiplies_L3; exact zlet_e e17 rfl)), hI17, fun kk ii hk => ((show S17 kk ii = S3 kk ii from by rw [← e17]; exact za_ne (by omega))).trans (hf3 kk ii (by omega)), fun q hq => by
          by_cases e : q = i3.toNat
          · rw [e, ← e17, za_same]
          · rw [← e17, za_ne (fun h => e h.2)]; exact hv3 q (by omega)⟩ (by omega) H locs ls hW (lv_sub hl [0, 1, 2, 3, 4] rfl)
  exact hL3 _ 0 S ⟨⟨by omega, by omega⟩, zfor_0 _ _ _, hI, fun kk ii hk => rfl, fun q hq => by omega⟩ (Nat.lt_succ_self _) H locs ls hW (lv_sub hl [0, 1, 2, 3, 4] rfl)
end ZMh
