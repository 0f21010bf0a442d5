section ZMf
def zm_byteAt (S : zS2) (k : Int) : Int := (if k < 0 then -1 else (if S 0 5 ≤ k then -1 else S 1 k.toNat))
set_option maxRecDepth 100000 in
set_option maxHeartbeats 4000000 in
theorem zk_byteAt (l : Launch) {D : va_G} {cI cJ cZ cP cS cM : ClassId} {L : List Nat} {sz : Nat} {f : Nat → va_E} (o : Nat) (S : zS2) (k : Int) (hI : mI S) (hk : -2147483648 ≤ k ∧ k ≤ 2147483647) : zMi l yX12_byteAt wsX12_byteAt 0 0 D (zT cI cJ cZ cP cS cM) L sz (zMO cI cJ o S f) [.ref o, .int (zI k)] (fun zv gv => zv = zm_byteAt S k ∧ gv = zMO cI cJ o S f ∧ -1 ≤ zv ∧ zv ≤ 255 ∧ (zv ≠ -1 → 0 ≤ k ∧ k < S 0 5) ∧ (0 ≤ k → k < S 0 5 → zv = S 1 k.toNat)) := by
  refine zWalk.met (nL := 2) (ret := (some .int)) (cc := cX12_byteAt) (by decide) rfl (Nat.le_of_ble_eq_true rfl) ?_
  intro pg en st mi ag bl mt cd ls CX hW hl
  have CX : zC pg st mi ag mt cd cX12_byteAt 2 (some .int) RX12 wsX12_byteAt := CX
  generalize hQ : MQ bl _ ag st 0 0 _ = Q
  have hX0 := CX.1
  have hB0 := CX.2.1
  have hl : lv_has ls 2 [(0, .ref o), (1, .int (zI k))] := hl
  obtain ⟨H, eH⟩ : ∃ H, H = st.heap := ⟨_, rfl⟩
  obtain ⟨locs, eL⟩ : ∃ L : List Loc, L = [] := ⟨_, rfl⟩
  have hW : zW D (zT cI cJ cZ cP cS cM) L (zQ L sz) st (zMO cI cJ o S f) st.heap H locs := by rw [eH, eL]; exact hW
  suffices hgo : W pg l en ({ frames := 0, cells := 0, slots := 0, locals := 0 } : Room) st mi ag bl mt cd H locs 0 0 Q (F0 mi 0 ls []) by rw [eH, eL] at hgo; exact hgo
  clear eH eL
  have hpb := hI.s10
  refine lv_iload_n hX0 hB0 dX12_byteAt_0 rfl (lv_at hl 1 rfl) ?_
  refine z_if_lt (tgt := 21) CX dX12_byteAt_1 (by decide) (by constructor <;> omega) (fun c_1 => ?_) (fun c_1 => ?_)
  ·
    refine lv_iconst (v := zI (-1)) hX0 hB0 dX12_byteAt_21 rfl ?_
    have hE : zm_byteAt S k = -1 := by unfold zm_byteAt; exact zif_t c_1 rfl
    rw [← hQ]
    exact z_iret (z := -1) CX hW (by rw [hE]; exact ⟨rfl, rfl, (show -1 ≤ (-1 : Int) ∧ (-1 : Int) ≤ 255 ∧ ((-1 : Int) ≠ -1 → 0 ≤ k ∧ k < S 0 5) ∧ (0 ≤ k → k < S 0 5 → (-1 : Int) = S 1 k.toNat) from by omega)⟩) rfl dX12_byteAt_22
  ·
    have d_1 : ¬ k < 0 := by omega
    refine lv_iload_n hX0 hB0 dX12_byteAt_4 rfl (lv_at hl 1 rfl) ?_
    refine lv_aload_n hX0 hB0 dX12_byteAt_5 rfl (lv_at hl 0 rfl) ?_
    refine z_get (Cn := RX12) (T := TX12) (N := 37) CX hW (v := .int (zI (S 0 5))) zMO_0 rfl (fun w h => List.mem_cons_of_mem _ (List.mem_append_right _ h)) 5 (by decide) (List.mem_of_getElem? (i := 1) rfl) rfl rfl dX12_byteAt_6 ?_
    have hr6 := hI.s5
    refine z_icmp_ge (tgt := 21) CX dX12_byteAt_9 (by decide) (by constructor <;> omega) (by constructor <;> omega) (fun c_9 => ?_) (fun c_9 => ?_)
    ·
      refine lv_iconst (v := zI (-1)) hX0 hB0 dX12_byteAt_21 rfl ?_
      have hE : zm_byteAt S k = -1 := by unfold zm_byteAt; exact zif_f d_1 (zif_t c_9 rfl)
      rw [← hQ]
      exact z_iret (z := -1) CX hW (by rw [hE]; exact ⟨rfl, rfl, (show -1 ≤ (-1 : Int) ∧ (-1 : Int) ≤ 255 ∧ ((-1 : Int) ≠ -1 → 0 ≤ k ∧ k < S 0 5) ∧ (0 ≤ k → k < S 0 5 → (-1 : Int) = S 1 k.toNat) from by omega)⟩) rfl dX12_byteAt_22
    ·
      have d_9 : ¬ S 0 5 ≤ k := by omega
      refine lv_aload_n hX0 hB0 dX12_byteAt_12 rfl (lv_at hl 0 rfl) ?_
      refine z_get (Cn := RX12) (T := TX12) (N := 37) CX hW (v := .ref (o + 1)) zMO_0 rfl (fun w h => List.mem_cons_of_mem _ (List.mem_append_right _ h)) 0 (by decide) (List.mem_of_getElem? (i := 2) rfl) rfl rfl dX12_byteAt_13 ?_
      refine lv_iload_n hX0 hB0 dX12_byteAt_16 rfl (lv_at hl 1 rfl) ?_
      refine z_iald (z := S 1 k.toNat) CX hW zMO_1 0 rfl (by refine ⟨?_, ?_, ?_⟩ <;> omega) rfl dX12_byteAt_17 ?_
      have hr17 := hI.r1 k.toNat
      refine lv_goto (tgt := 22) hX0 hB0 dX12_byteAt_18 (by decide) ?_
      have hE : zm_byteAt S k = S 1 k.toNat := by unfold zm_byteAt; exact zif_f d_1 (zif_f d_9 rfl)
      rw [← hQ]
      exact z_iret (z := S 1 k.toNat) CX hW (by rw [hE]; exact ⟨rfl, rfl, (show -1 ≤ (S 1 k.toNat) ∧ (S 1 k.toNat) ≤ 255 ∧ ((S 1 k.toNat) ≠ -1 → 0 ≤ k ∧ k < S 0 5) ∧ (0 ≤ k → k < S 0 5 → (S 1 k.toNat) = S 1 k.toNat) from by omega)⟩) rfl dX12_byteAt_22
def zm_isSmall (S : zS2) (k : Int) : Int := zlet (zm_byteAt S k) (fun z2 => (if z2 < 97 then 0 else zlet (zm_byteAt S k) (fun z12 => (if 122 < z12 then 0 else 1))))
set_option maxRecDepth 100000 in
set_option maxHeartbeats 4000000 in
theorem zk_isSmall (l : Launch) {D : va_G} {cI cJ cZ cP cS cM : ClassId} {L : List Nat} {sz : Nat} {f : Nat → va_E} (o : Nat) (S : zS2) (k : Int) (hI : mI S) (hk : -2147483648 ≤ k ∧ k ≤ 2147483647) : zMi l yX12_isSmall wsX12_isSmall 1 21 D (zT cI cJ cZ cP cS cM) L sz (zMO cI cJ o S f) [.ref o, .int (zI k)] (fun zv gv => zv = zm_isSmall S k ∧ gv = zMO cI cJ o S f ∧ 0 ≤ zv ∧ zv ≤ 1 ∧ (zv ≠ 0 → 0 ≤ k ∧ k < S 0 5 ∧ 97 ≤ S 1 k.toNat ∧ S 1 k.toNat ≤ 122)) := by
  refine zWalk.met (nL := 2) (ret := (some .boolean)) (cc := cX12_isSmall) (by decide) rfl (Nat.le_of_ble_eq_true rfl) ?_
  intro pg en st mi ag bl mt cd ls CX hW hl
  have CX : zC pg st mi ag mt cd cX12_isSmall 2 (some .boolean) RX12 wsX12_isSmall := CX
  generalize hQ : MQ bl _ ag st 0 0 _ = Q
  have hX0 := CX.1
  have hB0 := CX.2.1
  have hl : lv_has ls 2 [(0, .ref o), (1, .int (zI k))] := hl
  obtain ⟨H, eH⟩ : ∃ H, H = st.heap := ⟨_, rfl⟩
  obtain ⟨locs, eL⟩ : ∃ L : List Loc, L = [] := ⟨_, rfl⟩
  have hW : zW D (zT cI cJ cZ cP cS cM) L (zQ L sz) st (zMO cI cJ o S f) st.heap H locs := by rw [eH, eL]; exact hW
  suffices hgo : W pg l en ({ frames := 1, cells := 0, slots := 0, locals := 21 } : Room) st mi ag bl mt cd H locs 0 0 Q (F0 mi 0 ls []) by rw [eH, eL] at hgo; exact hgo
  clear eH eL
  have hpb := hI.s10
  refine lv_aload_n hX0 hB0 dX12_isSmall_0 rfl (lv_at hl 0 rfl) ?_
  refine lv_iload_n hX0 hB0 dX12_isSmall_1 rfl (lv_at hl 1 rfl) ?_
  refine z_calli hW (va_runV (C := RX12) (As := [.int (zI k)]) (rest := []) CX.fix (zk_byteAt l o S k hI (by constructor <;> omega)) (cwV 1 CX.fix.2.2.2.2 gX12_isSmall_X12_byteAt rfl rfl rfl (by decide +kernel) ⟨Nat.le_of_ble_eq_true rfl, Nat.le_of_ble_eq_true rfl⟩) (z_preV CX hW (r := (RX12, TX12, 37)) zMO_0 rfl) rfl rfl hl.1 rfl (lv_room (Nat.le_of_ble_eq_true rfl)) dX12_isSmall_2 ⟨Nat.zero_le _, Nat.zero_le _⟩) (fun z2 gn H locs hok hW => ?_)
  obtain ⟨hz2, hg, hq2⟩ := hok
  rw [hg] at hW
  clear hg
  have e2 : zm_byteAt S k = z2 := hz2.symm
  clear hz2
  refine lv_bipush (v := zI 97) hX0 hB0 dX12_isSmall_5 (by decide) ?_
  refine z_icmp_lt (tgt := 24) CX dX12_isSmall_7 (by decide) (by constructor <;> omega) (by constructor <;> omega) (fun c_7 => ?_) (fun c_7 => ?_)
  ·
    refine lv_iconst (v := zI 0) hX0 hB0 dX12_isSmall_24 rfl ?_
    have hE : zm_isSmall S k = 0 := by unfold zm_isSmall; exact zlet_e e2 (zif_t c_7 rfl)
    rw [← hQ]
    exact z_iret (z := 0) CX hW (by rw [hE]; exact ⟨rfl, rfl, (show 0 ≤ (0 : Int) ∧ (0 : Int) ≤ 1 ∧ ((0 : Int) ≠ 0 → 0 ≤ k ∧ k < S 0 5 ∧ 97 ≤ S 1 k.toNat ∧ S 1 k.toNat ≤ 122) from by omega)⟩) rfl dX12_isSmall_25
  ·
    have d_7 : ¬ z2 < 97 := by omega
    refine lv_aload_n hX0 hB0 dX12_isSmall_10 rfl (lv_at hl 0 rfl) ?_
    refine lv_iload_n hX0 hB0 dX12_isSmall_11 rfl (lv_at hl 1 rfl) ?_
    refine z_calli hW (va_runV (C := RX12) (As := [.int (zI k)]) (rest := []) CX.fix (zk_byteAt l o S k hI (by constructor <;> omega)) (cwV 1 CX.fix.2.2.2.2 gX12_isSmall_X12_byteAt rfl rfl rfl (by decide +kernel) ⟨Nat.le_of_ble_eq_true rfl, Nat.le_of_ble_eq_true rfl⟩) (z_preV CX hW (r := (RX12, TX12, 37)) zMO_0 rfl) rfl rfl hl.1 rfl (lv_room (Nat.le_of_ble_eq_true rfl)) dX12_isSmall_12 ⟨Nat.zero_le _, Nat.zero_le _⟩) (fun z12 gn H locs hok hW => ?_)
    obtain ⟨hz12, hg, hq12⟩ := hok
    rw [hg] at hW
    clear hg
    have e12 : zm_byteAt S k = z12 := hz12.symm
    clear hz12
    refine lv_bipush (v := zI 122) hX0 hB0 dX12_isSmall_15 (by decide) ?_
    refine z_icmp_gt (tgt := 24) CX dX12_isSmall_17 (by decide) (by constructor <;> omega) (by constructor <;> omega) (fun c_17 => ?_) (fun c_17 => ?_)
    ·
      refine lv_iconst (v := zI 0) hX0 hB0 dX12_isSmall_24 rfl ?_
      have hE : zm_isSmall S k = 0 := by unfold zm_isSmall; exact zlet_e e2 (zif_f d_7 (zlet_e e12 (zif_t c_17 rfl)))
      rw [← hQ]
      exact z_iret (z := 0) CX hW (by rw [hE]; exact ⟨rfl, rfl, (show 0 ≤ (0 : Int) ∧ (0 : Int) ≤ 1 ∧ ((0 : Int) ≠ 0 → 0 ≤ k ∧ k < S 0 5 ∧ 97 ≤ S 1 k.toNat ∧ S 1 k.toNat ≤ 122) from by omega)⟩) rfl dX12_isSmall_25
    ·
      have d_17 : ¬ 122 < z12 := by omega
      refine lv_iconst (v := zI 1) hX0 hB0 dX12_isSmall_20 rfl ?_
      refine lv_goto (tgt := 25) hX0 hB0 dX12_isSmall_21 (by decide) ?_
      have hE : zm_isSmall S k = 1 := by unfold zm_isSmall; exact zlet_e e2 (zif_f d_7 (zlet_e e12 (zif_f d_17 rfl)))
      rw [← hQ]
      exact z_iret (z := 1) CX hW (by rw [hE]; exact ⟨rfl, rfl, (show 0 ≤ (1 : Int) ∧ (1 : Int) ≤ 1 ∧ ((1 : Int) ≠ 0 → 0 ≤ k ∧ k < S 0 5 ∧ 97 ≤ S 1 k.toNat ∧ S 1 k.toNat ≤ 122) from by omega)⟩) rfl dX12_isSmall_25
def zm_isDigit (S : zS2) (k : Int) : Int := zlet (zm_byteAt S k) (fun z2 => (if z2 < 48 then 0 else zlet (zm_byteAt S k) (fun z12 => (if 57 < z12 then 0 else 1))))
set_option maxRecDepth 100000 in
set_option maxHeartbeats 4000000 in
theorem zk_isDigit (l : Launch) {D : va_G} {cI cJ cZ cP cS cM : ClassId} {L : List Nat} {sz : Nat} {f : Nat → va_E} (o : Nat) (S : zS2) (k : Int) (hI : mI S) (hk : -2147483648 ≤ k ∧ k ≤ 2147483647) : zMi l yX12_isDigit wsX12_isDigit 1 21 D (zT cI cJ cZ cP cS cM) L sz (zMO cI cJ o S f) [.ref o, .int (zI k)] (fun zv gv => zv = zm_isDigit S k ∧ gv = zMO cI cJ o S f ∧ 0 ≤ zv ∧ zv ≤ 1 ∧ (zv ≠ 0 → 0 ≤ k ∧ k < S 0 5 ∧ 48 ≤ S 1 k.toNat ∧ S 1 k.toNat ≤ 57)) := by
  refine zWalk.met (nL := 2) (ret := (some .boolean)) (cc := cX12_isDigit) (by decide) rfl (Nat.le_of_ble_eq_true rfl) ?_
  intro pg en st mi ag bl mt cd ls CX hW hl
  have CX : zC pg st mi ag mt cd cX12_isDigit 2 (some .boolean) RX12 wsX12_isDigit := CX
  generalize hQ : MQ bl _ ag st 0 0 _ = Q
  have hX0 := CX.1
  have hB0 := CX.2.1
  have hl : lv_has ls 2 [(0, .ref o), (1, .int (zI k))] := hl
  obtain ⟨H, eH⟩ : ∃ H, H = st.heap := ⟨_, rfl⟩
  obtain ⟨locs, eL⟩ : ∃ L : List Loc, L = [] := ⟨_, rfl⟩
  have hW : zW D (zT cI cJ cZ cP cS cM) L (zQ L sz) st (zMO cI cJ o S f) st.heap H locs := by rw [eH, eL]; exact hW
  suffices hgo : W pg l en ({ frames := 1, cells := 0, slots := 0, locals := 21 } : Room) st mi ag bl mt cd H locs 0 0 Q (F0 mi 0 ls []) by rw [eH, eL] at hgo; exact hgo
  clear eH eL
  have hpb := hI.s10
  refine lv_aload_n hX0 hB0 dX12_isDigit_0 rfl (lv_at hl 0 rfl) ?_
  refine lv_iload_n hX0 hB0 dX12_isDigit_1 rfl (lv_at hl 1 rfl) ?_
  refine z_calli hW (va_runV (C := RX12) (As := [.int (zI k)]) (rest := []) CX.fix (zk_byteAt l o S k hI (by constructor <;> omega)) (cwV 1 CX.fix.2.2.2.2 gX12_isDigit_X12_byteAt rfl rfl rfl (by decide +kernel) ⟨Nat.le_of_ble_eq_true rfl, Nat.le_of_ble_eq_true rfl⟩) (z_preV CX hW (r := (RX12, TX12, 37)) zMO_0 rfl) rfl rfl hl.1 rfl (lv_room (Nat.le_of_ble_eq_true rfl)) dX12_isDigit_2 ⟨Nat.zero_le _, Nat.zero_le _⟩) (fun z2 gn H locs hok hW => ?_)
  obtain ⟨hz2, hg, hq2⟩ := hok
  rw [hg] at hW
  clear hg
  have e2 : zm_byteAt S k = z2 := hz2.symm
  clear hz2
  refine lv_bipush (v := zI 48) hX0 hB0 dX12_isDigit_5 (by decide) ?_
  refine z_icmp_lt (tgt := 24) CX dX12_isDigit_7 (by decide) (by constructor <;> omega) (by constructor <;> omega) (fun c_7 => ?_) (fun c_7 => ?_)
  ·
    refine lv_iconst (v := zI 0) hX0 hB0 dX12_isDigit_24 rfl ?_
    have hE : zm_isDigit S k = 0 := by unfold zm_isDigit; exact zlet_e e2 (zif_t c_7 rfl)
    rw [← hQ]
    exact z_iret (z := 0) CX hW (by rw [hE]; exact ⟨rfl, rfl, (show 0 ≤ (0 : Int) ∧ (0 : Int) ≤ 1 ∧ ((0 : Int) ≠ 0 → 0 ≤ k ∧ k < S 0 5 ∧ 48 ≤ S 1 k.toNat ∧ S 1 k.toNat ≤ 57) from by omega)⟩) rfl dX12_isDigit_25
  ·
    have d_7 : ¬ z2 < 48 := by omega
    refine lv_aload_n hX0 hB0 dX12_isDigit_10 rfl (lv_at hl 0 rfl) ?_
    refine lv_iload_n hX0 hB0 dX12_isDigit_11 rfl (lv_at hl 1 rfl) ?_
    refine z_calli hW (va_runV (C := RX12) (As := [.int (zI k)]) (rest := []) CX.fix (zk_byteAt l o S k hI (by constructor <;> omega)) (cwV 1 CX.fix.2.2.2.2 gX12_isDigit_X12_byteAt rfl rfl rfl (by decide +kernel) ⟨Nat.le_of_ble_eq_true rfl, Nat.le_of_ble_eq_true rfl⟩) (z_preV CX hW (r := (RX12, TX12, 37)) zMO_0 rfl) rfl rfl hl.1 rfl (lv_room (Nat.le_of_ble_eq_true rfl)) dX12_isDigit_12 ⟨Nat.zero_le _, Nat.zero_le _⟩) (fun z12 gn H locs hok hW => ?_)
    obtain ⟨hz12, hg, hq12⟩ := hok
    rw [hg] at hW
    clear hg
    have e12 : zm_byteAt S k = z12 := hz12.symm
    clear hz12
    refine lv_bipush (v := zI 57) hX0 hB0 dX12_isDigit_15 (by decide) ?_
    refine z_icmp_gt (tgt := 24) CX dX12_isDigit_17 (by decide) (by constructor <;> omega) (by constructor <;> omega) (fun c_17 => ?_) (fun c_17 => ?_)
    ·
      refine lv_iconst (v := zI 0) hX0 hB0 dX12_isDigit_24 rfl ?_
      have hE : zm_isDigit S k = 0 := by unfold zm_isDigit; exact zlet_e e2 (zif_f d_7 (zlet_e e12 (zif_t c_17 rfl)))
      rw [← hQ]
      exact z_iret (z := 0) CX hW (by rw [hE]; exact ⟨rfl, rfl, (show 0 ≤ (0 : Int) ∧ (0 : Int) ≤ 1 ∧ ((0 : Int) ≠ 0 → 0 ≤ k ∧ k < S 0 5 ∧ 48 ≤ S 1 k.toNat ∧ S 1 k.toNat ≤ 57) from by omega)⟩) rfl dX12_isDigit_25
    ·
      have d_17 : ¬ 57 < z12 := by omega
      refine lv_iconst (v := zI 1) hX0 hB0 dX12_isDigit_20 rfl ?_
      refine lv_goto (tgt := 25) hX0 hB0 dX12_isDigit_21 (by decide) ?_
      have hE : zm_isDigit S k = 1 := by unfold zm_isDigit; exact zlet_e e2 (zif_f d_7 (zlet_e e12 (zif_f d_17 rfl)))
      rw [← hQ]
      exact z_iret (z := 1) CX hW (by rw [hE]; exact ⟨rfl, rfl, (show 0 ≤ (1 : Int) ∧ (1 : Int) ≤ 1 ∧ ((1 : Int) ≠ 0 → 0 ≤ k ∧ k < S 0 5 ∧ 48 ≤ S 1 k.toNat ∧ S 1 k.toNat ≤ 57) from by omega)⟩) rfl dX12_isDigit_25
def zm_here_W0  : Nat → zS2 → zS2
  | 0, S0 => S0
  | fu0 + 1, S0 => zlet (zm_byteAt S0 (S0 0 6)) (fun z5 => (if z5 = 10 then zlet (za S0 0 6 ((S0 0 6) + 1)) (fun S33 => zm_here_W0 fu0 S33) else zlet (zm_byteAt S0 (S0 0 6)) (fun z18 => (if z18 = 32 then zlet (za S0 0 6 ((S0 0 6) + 1)) (fun S33 => zm_here_W0 fu0 S33) else S0))))
def zm_here (S : zS2)  : Int × zS2 := zlet (zm_here_W0 ((1001 : Nat)) S) (fun S0 => zlet (zm_byteAt S0 (S0 0 6)) (fun z44 => (z44, S0)))
set_option maxRecDepth 100000 in
set_option maxHeartbeats 4000000 in
theorem zk_here (l : Launch) {D : va_G} {cI cJ cZ cP cS cM : ClassId} {L : List Nat} {sz : Nat} {f : Nat → va_E} (o : Nat) (S : zS2)  (hI : mI S)  : zMi l yX12_here wsX12_here 1 21 D (zT cI cJ cZ cP cS cM) L sz (zMO cI cJ o S f) [.ref o] (fun zv gv => zv = (zm_here S).1 ∧ gv = zMO cI cJ o (zm_here S).2 f ∧ mI (zm_here S).2 ∧ (∀ kk ii : Nat, ¬ (kk = 0 ∧ ii = 6) → (zm_here S).2 kk ii = S kk ii) ∧ S 0 6 ≤ ((zm_here S).2) 0 6 ∧ (S 0 6 ≤ S 0 5 → ((zm_here S).2) 0 6 ≤ S 0 5) ∧ -1 ≤ zv ∧ zv ≤ 255 ∧ (zv ≠ -1 → ((zm_here S).2) 0 6 < S 0 5)) := by
  refine zWalk.met (nL := 1) (ret := (some .int)) (cc := cX12_here) (by decide) rfl (Nat.le_of_ble_eq_true rfl) ?_
  intro pg en st mi ag bl mt cd ls CX hW hl
  have CX : zC pg st mi ag mt cd cX12_here 1 (some .int) RX12 wsX12_here := CX
  generalize hQ : MQ bl _ ag st 0 0 _ = Q
  have hX0 := CX.1
  have hB0 := CX.2.1
  have hl : lv_has ls 1 [(0, .ref o)] := hl
  obtain ⟨H, eH⟩ : ∃ H, H = st.heap := ⟨_, rfl⟩
  obtain ⟨locs, eL⟩ : ∃ L : List Loc, L = [] := ⟨_, rfl⟩
  have hW : zW D (zT cI cJ cZ cP cS cM) L (zQ L sz) st (zMO cI cJ o S f) st.heap H locs := by rw [eH, eL]; exact hW
  suffices hgo : W pg l en ({ frames := 1, cells := 0, slots := 0, locals := 21 } : Room) st mi ag bl mt cd H locs 0 0 Q (F0 mi 0 ls []) by rw [eH, eL] at hgo; exact hgo
  clear eH eL
  have hpb := hI.s10
  have hXt0 : ∀ (S0 : zS2), (zm_here_W0 ((1001 : Nat)) S = S0 ∧ mI S0 ∧ (∀ kk ii : Nat, ¬ (kk = 0 ∧ ii = 6) → S0 kk ii = S kk ii) ∧ (S 0 6 ≤ S0 0 6 ∧ (S 0 6 ≤ S 0 5 → S0 0 6 ≤ S 0 5))) → ∀ (H : Heap) (locs : List Loc) (ls : Array Slot), zW D (zT cI cJ cZ cP cS cM) L (zQ L sz) st (zMO cI cJ o S0 f) st.heap H locs → lv_has ls 1 [(0, .ref o)] → W pg l en ({ frames := 1, cells := 0, slots := 0, locals := 21 } : Room) st mi ag bl mt cd H locs 0 0 Q (F0 mi 39 ls []) := by
    intro S0 hinv H locs ls hW hl
    obtain ⟨e0, hI0, hf0, hv0⟩ := hinv
    have hp0 := hI0.s10
    have t0_5 : S0 0 5 = S 0 5 := hf0 0 5 (by omega)
    refine lv_aload_n hX0 hB0 dX12_here_39 rfl (lv_at hl 0 rfl) ?_
    refine lv_aload_n hX0 hB0 dX12_here_40 rfl (lv_at hl 0 rfl) ?_
    refine z_get (Cn := RX12) (T := TX12) (N := 37) CX hW (v := .int (zI (S0 0 6))) zMO_0 rfl (fun w h => List.mem_cons_of_mem _ (List.mem_append_right _ h)) 6 (by decide) (List.mem_of_getElem? (i := 1) rfl) rfl rfl dX12_here_41 ?_
    have hr41 := hI0.s6
    refine z_calli hW (va_runV (C := RX12) (As := [.int (zI (S0 0 6))]) (rest := []) CX.fix (zk_byteAt l o S0 (S0 0 6) hI0 (by constructor <;> omega)) (cwV 1 CX.fix.2.2.2.2 gX12_here_X12_byteAt rfl rfl rfl (by decide +kernel) ⟨Nat.le_of_ble_eq_true rfl, Nat.le_of_ble_eq_true rfl⟩) (z_preV CX hW (r := (RX12, TX12, 37)) zMO_0 rfl) rfl rfl hl.1 rfl (lv_room (Nat.le_of_ble_eq_true rfl)) dX12_here_44 ⟨Nat.zero_le _, Nat.zero_le _⟩) (fun z44 gn H locs hok hW => ?_)
    obtain ⟨hz44, hg, hq44⟩ := hok
    rw [hg] at hW
    clear hg
    have e44 : zm_byteAt S0 (S0 0 6) = z44 := hz44.symm
    clear hz44
    have hE : zm_here S = (z44, S0) := by unfold zm_here; exact zlet_e e0 (zlet_e e44 rfl)
    have hFr : ∀ kk ii : Nat, ¬ (kk = 0 ∧ ii = 6) → S0 kk ii = S kk ii := fun kk ii hk => (hf0 kk ii (by omega))
    rw [← hQ]
    exact z_iret (z := z44) CX hW (by rw [hE]; exact ⟨rfl, rfl, hI0, hFr, (show S 0 6 ≤ S0 0 6 ∧ (S 0 6 ≤ S 0 5 → S0 0 6 ≤ S 0 5) ∧ -1 ≤ z44 ∧ z44 ≤ 255 ∧ (z44 ≠ -1 → S0 0 6 < S 0 5) from by omega)⟩) rfl dX12_here_47
  have hL0 : ∀ (fu : Nat) (S0 : zS2), (zm_here_W0 ((1001 : Nat)) S = zm_here_W0 fu S0 ∧ mI S0 ∧ (∀ kk ii : Nat, ¬ (kk = 0 ∧ ii = 6) → S0 kk ii = S kk ii) ∧ (S 0 6 ≤ S0 0 6 ∧ (S 0 6 ≤ S 0 5 → S0 0 6 ≤ S 0 5))) → (S0 0 5 - S0 0 6).toNat < fu → ∀ (H : Heap) (locs : List Loc) (ls : Array Slot), zW D (zT cI cJ cZ cP cS cM) L (zQ L sz) st (zMO cI cJ o S0 f) st.heap H locs → lv_has ls 1 [(0, .ref o)] → W pg l en ({ frames := 1, cells := 0, slots := 0, locals := 21 } : Room) st mi ag bl mt cd H locs 0 0 Q (F0 mi 0 ls []) := by
    intro fu
    induction fu with
    | zero => intro S0 _ hfu; exact absurd hfu (Nat.not_lt_zero _)
    | succ fu ih0 =>
      intro S0 hinv hfu0 H locs ls hW hl
      obtain ⟨hz0, hI0, hf0, hv0⟩ := hinv
      have hp0 := hI0.s10
      have t0_5 : S0 0 5 = S 0 5 := hf0 0 5 (by omega)
      have hb0 := hI0.s5; have hb1 := hI0.s6
      refine lv_aload_n hX0 hB0 dX12_here_0 rfl (lv_at hl 0 rfl) ?_
      refine lv_aload_n hX0 hB0 dX12_here_1 rfl (lv_at hl 0 rfl) ?_
      refine z_get (Cn := RX12) (T := TX12) (N := 37) CX hW (v := .int (zI (S0 0 6))) zMO_0 rfl (fun w h => List.mem_cons_of_mem _ (List.mem_append_right _ h)) 6 (by decide) (List.mem_of_getElem? (i := 1) rfl) rfl rfl dX12_here_2 ?_
      have hr2 := hI0.s6
      refine z_calli hW (va_runV (C := RX12) (As := [.int (zI (S0 0 6))]) (rest := []) CX.fix (zk_byteAt l o S0 (S0 0 6) hI0 (by constructor <;> omega)) (cwV 1 CX.fix.2.2.2.2 gX12_here_X12_byteAt rfl rfl rfl (by decide +kernel) ⟨Nat.le_of_ble_eq_true rfl, Nat.le_of_ble_eq_true rfl⟩) (z_preV CX hW (r := (RX12, TX12, 37)) zMO_0 rfl) rfl rfl hl.1 rfl (lv_room (Nat.le_of_ble_eq_true rfl)) dX12_here_5 ⟨Nat.zero_le _, Nat.zero_le _⟩) (fun z5 gn H locs hok hW => ?_)
      obtain ⟨hz5, hg, hq5⟩ := hok
      rw [hg] at hW
      clear hg
      have e5 : zm_byteAt S0 (S0 0 6) = z5 := hz5.symm
      clear hz5
      refine lv_bipush (v := zI 10) hX0 hB0 dX12_here_8 (by decide) ?_
      refine z_icmp_eq (tgt := 26) CX dX12_here_10 (by decide) (by constructor <;> omega) (by constructor <;> omega) (fun c_10 => ?_) (fun c_10 => ?_)
      ·
        refine lv_aload_n hX0 hB0 dX12_here_26 rfl (lv_at hl 0 rfl) ?_
        refine lv_dup hX0 hB0 dX12_here_27 rfl ?_
        refine z_get (Cn := RX12) (T := TX12) (N := 37) CX hW (v := .int (zI (S0 0 6))) zMO_0 rfl (fun w h => List.mem_cons_of_mem _ (List.mem_append_right _ h)) 6 (by decide) (List.mem_of_getElem? (i := 1) rfl) rfl rfl dX12_here_28 ?_
        have hr28 := hI0.s6
        refine lv_iconst (v := zI 1) hX0 hB0 dX12_here_31 rfl ?_
        refine z_iadd (z := (S0 0 6) + 1) CX dX12_here_32 rfl ?_
        obtain ⟨S33, e33⟩ : ∃ q, za S0 0 6 ((S0 0 6) + 1) = q := ⟨_, rfl⟩
        refine z_put (Cn := RX12) (T := TX12) (N := 37) CX hW (v := .int (zI ((S0 0 6) + 1))) zMO_0 rfl (fun w h => List.mem_cons_of_mem _ (List.mem_append_right _ h)) tyX12 tyX12_ok nmX12 6 (by decide) (List.mem_of_getElem? (i := 1) rfl) rfl rfl rfl rfl (Nat.le_of_ble_eq_true rfl) (g := zMO cI cJ o S33 f) (zMO_s6.trans (by rw [e33])) dX12_here_33 (fun H locs hW => ?_)
        have hI33 : mI S33 := e33 ▸ hI0.v6 (by constructor <;> omega)
        have t33_5 : S33 0 5 = S0 0 5 := by rw [← e33]; exact za_ne (by omega)
        have t33_6 : S33 0 6 = (S0 0 6) + 1 := by rw [← e33]; exact za_same
        refine lv_goto (tgt := 0) hX0 hB0 dX12_here_36 (by decide) ?_
        exact ih0 S33 ⟨hz0.trans (by rw [zm_here_W0]; exact zlet_e e5 (zif_t c_10 (zlet_e e33 rfl))), hI33, fun kk ii hk => ((show S33 kk ii = S0 kk ii from by rw [← e33]; exact za_ne (by omega))).trans (hf0 kk ii (by omega)), by omega⟩ (by omega) H locs ls hW (lv_sub hl [0] rfl)
      ·
        refine lv_aload_n hX0 hB0 dX12_here_13 rfl (lv_at hl 0 rfl) ?_
        refine lv_aload_n hX0 hB0 dX12_here_14 rfl (lv_at hl 0 rfl) ?_
        refine z_get (Cn := RX12) (T := TX12) (N := 37) CX hW (v := .int (zI (S0 0 6))) zMO_0 rfl (fun w h => List.mem_cons_of_mem _ (List.mem_append_right _ h)) 6 (by decide) (List.mem_of_getElem? (i := 1) rfl) rfl rfl dX12_here_15 ?_
        have hr15 := hI0.s6
        refine z_calli hW (va_runV (C := RX12) (As := [.int (zI (S0 0 6))]) (rest := []) CX.fix (zk_byteAt l o S0 (S0 0 6) hI0 (by constructor <;> omega)) (cwV 1 CX.fix.2.2.2.2 gX12_here_X12_byteAt rfl rfl rfl (by decide +kernel) ⟨Nat.le_of_ble_eq_true rfl, Nat.le_of_ble_eq_true rfl⟩) (z_preV CX hW (r := (RX12, TX12, 37)) zMO_0 rfl) rfl rfl hl.1 rfl (lv_room (Nat.le_of_ble_eq_true rfl)) dX12_here_18 ⟨Nat.zero_le _, Nat.zero_le _⟩) (fun z18 gn H locs hok hW => ?_)
        obtain ⟨hz18, hg, hq18⟩ := hok
        rw [hg] at hW
        clear hg
        have e18 : zm_byteAt S0 (S0 0 6) = z18 := hz18.symm
        clear hz18
        refine lv_bipush (v := zI 32) hX0 hB0 dX12_here_21 (by decide) ?_
        refine z_icmp_ne (tgt := 39) CX dX12_here_23 (by decide) (by constructor <;> omega) (by constructor <;> omega) (fun c_23 => ?_) (fun c_23 => ?_)
        ·
          exact hXt0 S0 ⟨hz0.trans (by rw [zm_here_W0]; exact zlet_e e5 (zif_f c_10 (zlet_e e18 (zif_f c_23 rfl)))), hI0, fun kk ii hk => (hf0 kk ii (by omega)), by omega⟩ H locs ls hW (lv_sub hl [0] rfl)
        ·
          refine lv_aload_n hX0 hB0 dX12_here_26 rfl (lv_at hl 0 rfl) ?_
          refine lv_dup hX0 hB0 dX12_here_27 rfl ?_
          refine z_get (Cn := RX12) (T := TX12) (N := 37) CX hW (v := .int (zI (S0 0 6))) zMO_0 rfl (fun w h => List.mem_cons_of_mem _ (List.mem_append_right _ h)) 6 (by decide) (List.mem_of_getElem? (i := 1) rfl) rfl rfl dX12_here_28 ?_
          have hr28 := hI0.s6
          refine lv_iconst (v := zI 1) hX0 hB0 dX12_here_31 rfl ?_
          refine z_iadd (z := (S0 0 6) + 1) CX dX12_here_32 rfl ?_
          obtain ⟨S33, e33⟩ : ∃ q, za S0 0 6 ((S0 0 6) + 1) = q := ⟨_, rfl⟩
          refine z_put (Cn := RX12) (T := TX12) (N := 37) CX hW (v := .int (zI ((S0 0 6) + 1))) zMO_0 rfl (fun w h => List.mem_cons_of_mem _ (List.mem_append_right _ h)) tyX12 tyX12_ok nmX12 6 (by decide) (List.mem_of_getElem? (i := 1) rfl) rfl rfl rfl rfl (Nat.le_of_ble_eq_true rfl) (g := zMO cI cJ o S33 f) (zMO_s6.trans (by rw [e33])) dX12_here_33 (fun H locs hW => ?_)
          have hI33 : mI S33 := e33 ▸ hI0.v6 (by constructor <;> omega)
          have t33_5 : S33 0 5 = S0 0 5 := by rw [← e33]; exact za_ne (by omega)
          have t33_6 : S33 0 6 = (S0 0 6) + 1 := by rw [← e33]; exact za_same
          refine lv_goto (tgt := 0) hX0 hB0 dX12_here_36 (by decide) ?_
          exact ih0 S33 ⟨hz0.trans (by rw [zm_here_W0]; exact zlet_e e5 (zif_f c_10 (zlet_e e18 (zif_t c_23 (zlet_e e33 rfl))))), hI33, fun kk ii hk => ((show S33 kk ii = S0 kk ii from by rw [← e33]; exact za_ne (by omega))).trans (hf0 kk ii (by omega)), by omega⟩ (by omega) H locs ls hW (lv_sub hl [0] rfl)
  exact hL0 _ S ⟨rfl, hI, fun kk ii hk => rfl, ⟨Int.le_refl _, fun h => h⟩⟩ (by have hb0 := hI.s5; have hb1 := hI.s6; omega) H locs ls hW (lv_sub hl [0] rfl)
def zm_faults (S : zS2) (kind : Int) (place : Int) : zS2 := (if S 0 8 = 0 then zlet (za S 0 8 kind) (fun S10 => zlet (za S10 0 9 place) (fun S15 => S15)) else S)
set_option maxRecDepth 100000 in
set_option maxHeartbeats 4000000 in
theorem zk_faults (l : Launch) {D : va_G} {cI cJ cZ cP cS cM : ClassId} {L : List Nat} {sz : Nat} {f : Nat → va_E} (o : Nat) (S : zS2) (kind : Int) (place : Int) (hI : mI S) (hkind : 0 ≤ kind ∧ kind ≤ 5) (hplace : -1 ≤ place ∧ place ≤ 1000) : zMv l yX12_faults wsX12_faults 0 0 D (zT cI cJ cZ cP cS cM) L sz (zMO cI cJ o S f) [.ref o, .int (zI kind), .int (zI place)] (fun gv => gv = zMO cI cJ o (zm_faults S kind place) f ∧ mI (zm_faults S kind place) ∧ (∀ kk ii : Nat, ¬ (kk = 0 ∧ ii = 8) ∧ ¬ (kk = 0 ∧ ii = 9) → (zm_faults S kind place) kk ii = S kk ii) ∧ (kind ≠ 0 → (zm_faults S kind place) 0 8 ≠ 0) ∧ (S 0 8 ≠ 0 → (zm_faults S kind place) 0 8 = S 0 8)) := by
  refine zWalk.met (nL := 3) (ret := none) (cc := cX12_faults) (by decide) rfl (Nat.le_of_ble_eq_true rfl) ?_
  intro pg en st mi ag bl mt cd ls CX hW hl
  have CX : zC pg st mi ag mt cd cX12_faults 3 none RX12 wsX12_faults := CX
  generalize hQ : MQ bl _ ag st 0 0 _ = Q
  have hX0 := CX.1
  have hB0 := CX.2.1
  have hl : lv_has ls 3 [(0, .ref o), (1, .int (zI kind)), (2, .int (zI place))] := hl
  obtain ⟨H, eH⟩ : ∃ H, H = st.heap := ⟨_, rfl⟩
  obtain ⟨locs, eL⟩ : ∃ L : List Loc, L = [] := ⟨_, rfl⟩
  have hW : zW D (zT cI cJ cZ cP cS cM) L (zQ L sz) st (zMO cI cJ o S f) st.heap H locs := by rw [eH, eL]; exact hW
  suffices hgo : W pg l en ({ frames := 0, cells := 0, slots := 0, locals := 0 } : Room) st mi ag bl mt cd H locs 0 0 Q (F0 mi 0 ls []) by rw [eH, eL] at hgo; exact hgo
  clear eH eL
  have hpb := hI.s10
  refine lv_aload_n hX0 hB0 dX12_faults_0 rfl (lv_at hl 0 rfl) ?_
  refine z_get (Cn := RX12) (T := TX12) (N := 37) CX hW (v := .int (zI (S 0 8))) zMO_0 rfl (fun w h => List.mem_cons_of_mem _ (List.mem_append_right _ h)) 8 (by decide) (List.mem_of_getElem? (i := 1) rfl) rfl rfl dX12_faults_1 ?_
  have hr1 := hI.s8
  refine z_if_eq (tgt := 8) CX dX12_faults_4 (by decide) (by constructor <;> omega) (fun c_4 => ?_) (fun c_4 => ?_)
  ·
    refine lv_aload_n hX0 hB0 dX12_faults_8 rfl (lv_at hl 0 rfl) ?_
    refine lv_iload_n hX0 hB0 dX12_faults_9 rfl (lv_at hl 1 rfl) ?_
    obtain ⟨S10, e10⟩ : ∃ q, za S 0 8 kind = q := ⟨_, rfl⟩
    refine z_put (Cn := RX12) (T := TX12) (N := 37) CX hW (v := .int (zI kind)) zMO_0 rfl (fun w h => List.mem_cons_of_mem _ (List.mem_append_right _ h)) tyX12 tyX12_ok nmX12 8 (by decide) (List.mem_of_getElem? (i := 1) rfl) rfl rfl rfl rfl (Nat.le_of_ble_eq_true rfl) (g := zMO cI cJ o S10 f) (zMO_s8.trans (by rw [e10])) dX12_faults_10 (fun H locs hW => ?_)
    have hI10 : mI S10 := e10 ▸ hI.v8 (by constructor <;> omega)
    have t10_8 : S10 0 8 = kind := by rw [← e10]; exact za_same
    refine lv_aload_n hX0 hB0 dX12_faults_13 rfl (lv_at hl 0 rfl) ?_
    refine lv_iload_n hX0 hB0 dX12_faults_14 rfl (lv_at hl 2 rfl) ?_
    obtain ⟨S15, e15⟩ : ∃ q, za S10 0 9 place = q := ⟨_, rfl⟩
    refine z_put (Cn := RX12) (T := TX12) (N := 37) CX hW (v := .int (zI place)) zMO_0 rfl (fun w h => List.mem_cons_of_mem _ (List.mem_append_right _ h)) tyX12 tyX12_ok nmX12 9 (by decide) (List.mem_of_getElem? (i := 2) rfl) rfl rfl rfl rfl (Nat.le_of_ble_eq_true rfl) (g := zMO cI cJ o S15 f) (zMO_s9.trans (by rw [e15])) dX12_faults_15 (fun H locs hW => ?_)
    have hI15 : mI S15 := e15 ▸ hI10.v9 (by constructor <;> omega)
    have t15_8 : S15 0 8 = S10 0 8 := by rw [← e15]; exact za_ne (by omega)
    have hE : zm_faults S kind place = S15 := by unfold zm_faults; exact zif_t c_4 (zlet_e e10 (zlet_e e15 rfl))
    have hFr : ∀ kk ii : Nat, ¬ (kk = 0 ∧ ii = 8) ∧ ¬ (kk = 0 ∧ ii = 9) → S15 kk ii = S kk ii := fun kk ii hk => ((show S15 kk ii = S10 kk ii from by rw [← e15]; exact za_ne (by omega))).trans (show S10 kk ii = S kk ii from by rw [← e10]; exact za_ne (by omega))
    rw [← hQ]
    exact z_vret CX hW (by rw [hE]; exact ⟨rfl, hI15, hFr, (show (kind ≠ 0 → S15 0 8 ≠ 0) ∧ (S 0 8 ≠ 0 → S15 0 8 = S 0 8) from by omega)⟩) dX12_faults_18
  ·
    have hE : zm_faults S kind place = S := by unfold zm_faults; exact zif_f c_4 rfl
    have hFr : ∀ kk ii : Nat, ¬ (kk = 0 ∧ ii = 8) ∧ ¬ (kk = 0 ∧ ii = 9) → S kk ii = S kk ii := fun kk ii hk => rfl
    rw [← hQ]
    exact z_vret CX hW (by rw [hE]; exact ⟨rfl, hI, hFr, (show (kind ≠ 0 → S 0 8 ≠ 0) ∧ (S 0 8 ≠ 0 → S 0 8 = S 0 8) from by omega)⟩) dX12_faults_7
def zm_goesWell (S : zS2)  : Int := (if S 0 8 = 0 then 1 else 0)
set_option maxRecDepth 100000 in
set_option maxHeartbeats 4000000 in
theorem zk_goesWell (l : Launch) {D : va_G} {cI cJ cZ cP cS cM : ClassId} {L : List Nat} {sz : Nat} {f : Nat → va_E} (o : Nat) (S : zS2)  (hI : mI S)  : zMi l yX12_goesWell wsX12_goesWell 0 0 D (zT cI cJ cZ cP cS cM) L sz (zMO cI cJ o S f) [.ref o] (fun zv gv => zv = zm_goesWell S ∧ gv = zMO cI cJ o S f ∧ 0 ≤ zv ∧ zv ≤ 1 ∧ (zv ≠ 0 → S 0 8 = 0) ∧ (zv = 0 → S 0 8 ≠ 0)) := by
  refine zWalk.met (nL := 1) (ret := (some .boolean)) (cc := cX12_goesWell) (by decide) rfl (Nat.le_of_ble_eq_true rfl) ?_
  intro pg en st mi ag bl mt cd ls CX hW hl
  have CX : zC pg st mi ag mt cd cX12_goesWell 1 (some .boolean) RX12 wsX12_goesWell := CX
  generalize hQ : MQ bl _ ag st 0 0 _ = Q
  have hX0 := CX.1
  have hB0 := CX.2.1
  have hl : lv_has ls 1 [(0, .ref o)] := hl
  obtain ⟨H, eH⟩ : ∃ H, H = st.heap := ⟨_, rfl⟩
  obtain ⟨locs, eL⟩ : ∃ L : List Loc, L = [] := ⟨_, rfl⟩
  have hW : zW D (zT cI cJ cZ cP cS cM) L (zQ L sz) st (zMO cI cJ o S f) st.heap H locs := by rw [eH, eL]; exact hW
  suffices hgo : W pg l en ({ frames := 0, cells := 0, slots := 0, locals := 0 } : Room) st mi ag bl mt cd H locs 0 0 Q (F0 mi 0 ls []) by rw [eH, eL] at hgo; exact hgo
  clear eH eL
  have hpb := hI.s10
  refine lv_aload_n hX0 hB0 dX12_goesWell_0 rfl (lv_at hl 0 rfl) ?_
  refine z_get (Cn := RX12) (T := TX12) (N := 37) CX hW (v := .int (zI (S 0 8))) zMO_0 rfl (fun w h => List.mem_cons_of_mem _ (List.mem_append_right _ h)) 8 (by decide) (List.mem_of_getElem? (i := 1) rfl) rfl rfl dX12_goesWell_1 ?_
  have hr1 := hI.s8
  refine z_if_ne (tgt := 11) CX dX12_goesWell_4 (by decide) (by constructor <;> omega) (fun c_4 => ?_) (fun c_4 => ?_)
  ·
    refine lv_iconst (v := zI 0) hX0 hB0 dX12_goesWell_11 rfl ?_
    have hE : zm_goesWell S = 0 := by unfold zm_goesWell; exact zif_f c_4 rfl
    rw [← hQ]
    exact z_iret (z := 0) CX hW (by rw [hE]; exact ⟨rfl, rfl, (show 0 ≤ (0 : Int) ∧ (0 : Int) ≤ 1 ∧ ((0 : Int) ≠ 0 → S 0 8 = 0) ∧ ((0 : Int) = 0 → S 0 8 ≠ 0) from by omega)⟩) rfl dX12_goesWell_12
  ·
    refine lv_iconst (v := zI 1) hX0 hB0 dX12_goesWell_7 rfl ?_
    refine lv_goto (tgt := 12) hX0 hB0 dX12_goesWell_8 (by decide) ?_
    have hE : zm_goesWell S = 1 := by unfold zm_goesWell; exact zif_t c_4 rfl
    rw [← hQ]
    exact z_iret (z := 1) CX hW (by rw [hE]; exact ⟨rfl, rfl, (show 0 ≤ (1 : Int) ∧ (1 : Int) ≤ 1 ∧ ((1 : Int) ≠ 0 → S 0 8 = 0) ∧ ((1 : Int) = 0 → S 0 8 ≠ 0) from by omega)⟩) rfl dX12_goesWell_12
def zm_isMark (S : zS2) (c : Int) : Int × zS2 := zlet (zm_goesWell S) (fun z1 => (if z1 = 0 then (0, S) else zlet (zm_here S) (fun q8 => (fun (z8 : Int) (S8 : zS2) => (if z8 = c then (1, S8) else (0, S8))) q8.1 q8.2)))
set_option maxRecDepth 100000 in
set_option maxHeartbeats 4000000 in
theorem zk_isMark (l : Launch) {D : va_G} {cI cJ cZ cP cS cM : ClassId} {L : List Nat} {sz : Nat} {f : Nat → va_E} (o : Nat) (S : zS2) (c : Int) (hI : mI S) (hc : 0 ≤ c ∧ c ≤ 255) : zMi l yX12_isMark wsX12_isMark 2 41 D (zT cI cJ cZ cP cS cM) L sz (zMO cI cJ o S f) [.ref o, .int (zI c)] (fun zv gv => zv = (zm_isMark S c).1 ∧ gv = zMO cI cJ o (zm_isMark S c).2 f ∧ mI (zm_isMark S c).2 ∧ (∀ kk ii : Nat, ¬ (kk = 0 ∧ ii = 6) → (zm_isMark S c).2 kk ii = S kk ii) ∧ S 0 6 ≤ ((zm_isMark S c).2) 0 6 ∧ (S 0 6 ≤ S 0 5 → ((zm_isMark S c).2) 0 6 ≤ S 0 5) ∧ 0 ≤ zv ∧ zv ≤ 1 ∧ (zv ≠ 0 → ((zm_isMark S c).2) 0 6 < S 0 5 ∧ S 0 8 = 0)) := by
  refine zWalk.met (nL := 2) (ret := (some .boolean)) (cc := cX12_isMark) (by decide) rfl (Nat.le_of_ble_eq_true rfl) ?_
  intro pg en st mi ag bl mt cd ls CX hW hl
  have CX : zC pg st mi ag mt cd cX12_isMark 2 (some .boolean) RX12 wsX12_isMark := CX
  generalize hQ : MQ bl _ ag st 0 0 _ = Q
  have hX0 := CX.1
  have hB0 := CX.2.1
  have hl : lv_has ls 2 [(0, .ref o), (1, .int (zI c))] := hl
  obtain ⟨H, eH⟩ : ∃ H, H = st.heap := ⟨_, rfl⟩
  obtain ⟨locs, eL⟩ : ∃ L : List Loc, L = [] := ⟨_, rfl⟩
  have hW : zW D (zT cI cJ cZ cP cS cM) L (zQ L sz) st (zMO cI cJ o S f) st.heap H locs := by rw [eH, eL]; exact hW
  suffices hgo : W pg l en ({ frames := 2, cells := 0, slots := 0, locals := 41 } : Room) st mi ag bl mt cd H locs 0 0 Q (F0 mi 0 ls []) by rw [eH, eL] at hgo; exact hgo
  clear eH eL
  have hpb := hI.s10
  refine lv_aload_n hX0 hB0 dX12_isMark_0 rfl (lv_at hl 0 rfl) ?_
  refine z_calli hW (va_runV (C := RX12) (As := []) (rest := []) CX.fix (zk_goesWell l o S  hI ) (cwV 0 CX.fix.2.2.2.2 gX12_isMark_X12_goesWell rfl rfl rfl (by decide +kernel) ⟨Nat.le_of_ble_eq_true rfl, Nat.le_of_ble_eq_true rfl⟩) (z_preV CX hW (r := (RX12, TX12, 37)) zMO_0 rfl) rfl rfl hl.1 rfl (lv_room (Nat.le_of_ble_eq_true rfl)) dX12_isMark_1 ⟨Nat.zero_le _, Nat.zero_le _⟩) (fun z1 gn H locs hok hW => ?_)
  obtain ⟨hz1, hg, hq1⟩ := hok
  rw [hg] at hW
  clear hg
  have e1 : zm_goesWell S = z1 := hz1.symm
  clear hz1
  refine z_if_eq (tgt := 19) CX dX12_isMark_4 (by decide) (by constructor <;> omega) (fun c_4 => ?_) (fun c_4 => ?_)
  ·
    refine lv_iconst (v := zI 0) hX0 hB0 dX12_isMark_19 rfl ?_
    have hE : zm_isMark S c = (0, S) := by unfold zm_isMark; exact zlet_e e1 (zif_t c_4 rfl)
    have hFr : ∀ kk ii : Nat, ¬ (kk = 0 ∧ ii = 6) → S kk ii = S kk ii := fun kk ii hk => rfl
    rw [← hQ]
    exact z_iret (z := 0) CX hW (by rw [hE]; exact ⟨rfl, rfl, hI, hFr, (show S 0 6 ≤ S 0 6 ∧ (S 0 6 ≤ S 0 5 → S 0 6 ≤ S 0 5) ∧ 0 ≤ (0 : Int) ∧ (0 : Int) ≤ 1 ∧ ((0 : Int) ≠ 0 → S 0 6 < S 0 5 ∧ S 0 8 = 0) from by omega)⟩) rfl dX12_isMark_20
  ·
    refine lv_aload_n hX0 hB0 dX12_isMark_7 rfl (lv_at hl 0 rfl) ?_
    refine z_calli hW (va_runV (C := RX12) (As := []) (rest := []) CX.fix (zk_here l o S  hI ) (cwV 0 CX.fix.2.2.2.2 gX12_isMark_X12_here rfl rfl rfl (by decide +kernel) ⟨Nat.le_of_ble_eq_true rfl, Nat.le_of_ble_eq_true rfl⟩) (z_preV CX hW (r := (RX12, TX12, 37)) zMO_0 rfl) rfl rfl hl.1 rfl (lv_room (Nat.le_of_ble_eq_true rfl)) dX12_isMark_8 ⟨Nat.zero_le _, Nat.zero_le _⟩) (fun z8 gn H locs hok hW => ?_)
    obtain ⟨hz8, hg, hI8, hf8, hq8⟩ := hok
    obtain ⟨S8, hS8⟩ : ∃ q, q = (zm_here S).2 := ⟨_, rfl⟩
    rw [← hS8] at hg hI8 hf8
    have t8_5 : S8 0 5 = S 0 5 := hf8 0 5 (by omega)
    have t8_8 : S8 0 8 = S 0 8 := hf8 0 8 (by omega)
    skip
    try rw [← hS8] at hq8
    rw [hg] at hW
    clear hg
    have e8 : zm_here S = (z8, S8) := Prod.ext hz8.symm hS8.symm
    clear hz8 hS8
    refine lv_iload_n hX0 hB0 dX12_isMark_11 rfl (lv_at hl 1 rfl) ?_
    refine z_icmp_ne (tgt := 19) CX dX12_isMark_12 (by decide) (by constructor <;> omega) (by constructor <;> omega) (fun c_12 => ?_) (fun c_12 => ?_)
    ·
      refine lv_iconst (v := zI 0) hX0 hB0 dX12_isMark_19 rfl ?_
      have hE : zm_isMark S c = (0, S8) := by unfold zm_isMark; exact zlet_e e1 (zif_f c_4 (zlet_e e8 (zif_f c_12 rfl)))
      have hFr : ∀ kk ii : Nat, ¬ (kk = 0 ∧ ii = 6) → S8 kk ii = S kk ii := fun kk ii hk => (hf8 kk ii (by omega))
      rw [← hQ]
      exact z_iret (z := 0) CX hW (by rw [hE]; exact ⟨rfl, rfl, hI8, hFr, (show S 0 6 ≤ S8 0 6 ∧ (S 0 6 ≤ S 0 5 → S8 0 6 ≤ S 0 5) ∧ 0 ≤ (0 : Int) ∧ (0 : Int) ≤ 1 ∧ ((0 : Int) ≠ 0 → S8 0 6 < S 0 5 ∧ S 0 8 = 0) from by omega)⟩) rfl dX12_isMark_20
    ·
      refine lv_iconst (v := zI 1) hX0 hB0 dX12_isMark_15 rfl ?_
      refine lv_goto (tgt := 20) hX0 hB0 dX12_isMark_16 (by decide) ?_
      have hE : zm_isMark S c = (1, S8) := by unfold zm_isMark; exact zlet_e e1 (zif_f c_4 (zlet_e e8 (zif_t c_12 rfl)))
      have hFr : ∀ kk ii : Nat, ¬ (kk = 0 ∧ ii = 6) → S8 kk ii = S kk ii := fun kk ii hk => (hf8 kk ii (by omega))
      rw [← hQ]
      exact z_iret (z := 1) CX hW (by rw [hE]; exact ⟨rfl, rfl, hI8, hFr, (show S 0 6 ≤ S8 0 6 ∧ (S 0 6 ≤ S 0 5 → S8 0 6 ≤ S 0 5) ∧ 0 ≤ (1 : Int) ∧ (1 : Int) ≤ 1 ∧ ((1 : Int) ≠ 0 → S8 0 6 < S 0 5 ∧ S 0 8 = 0) from by omega)⟩) rfl dX12_isMark_20
def zm_mark (S : zS2) (c : Int) : zS2 := zlet (zm_goesWell S) (fun z1 => (if z1 = 0 then S else zlet (zm_here S) (fun q9 => (fun (z9 : Int) (S9 : zS2) => (if z9 = c then zlet (za S9 0 6 ((S9 0 6) + 1)) (fun S23 => S23) else zlet (zm_faults S9 1 (S9 0 6)) (fun S35 => S35))) q9.1 q9.2)))
set_option maxRecDepth 100000 in
set_option maxHeartbeats 4000000 in
theorem zk_mark (l : Launch) {D : va_G} {cI cJ cZ cP cS cM : ClassId} {L : List Nat} {sz : Nat} {f : Nat → va_E} (o : Nat) (S : zS2) (c : Int) (hI : mI S) (hc : 0 ≤ c ∧ c ≤ 255) : zMv l yX12_mark wsX12_mark 2 41 D (zT cI cJ cZ cP cS cM) L sz (zMO cI cJ o S f) [.ref o, .int (zI c)] (fun gv => gv = zMO cI cJ o (zm_mark S c) f ∧ mI (zm_mark S c) ∧ (∀ kk ii : Nat, ¬ (kk = 0 ∧ ii = 6) ∧ ¬ (kk = 0 ∧ ii = 8) ∧ ¬ (kk = 0 ∧ ii = 9) → (zm_mark S c) kk ii = S kk ii) ∧ S 0 6 ≤ (zm_mark S c) 0 6 ∧ (S 0 6 ≤ S 0 5 → (zm_mark S c) 0 6 ≤ S 0 5) ∧ ((zm_mark S c) 0 8 = 0 → S 0 6 < (zm_mark S c) 0 6 ∧ S 0 8 = 0) ∧ (S 0 8 ≠ 0 → (zm_mark S c) 0 8 = S 0 8)) := by
  refine zWalk.met (nL := 2) (ret := none) (cc := cX12_mark) (by decide) rfl (Nat.le_of_ble_eq_true rfl) ?_
  intro pg en st mi ag bl mt cd ls CX hW hl
  have CX : zC pg st mi ag mt cd cX12_mark 2 none RX12 wsX12_mark := CX
  generalize hQ : MQ bl _ ag st 0 0 _ = Q
  have hX0 := CX.1
  have hB0 := CX.2.1
  have hl : lv_has ls 2 [(0, .ref o), (1, .int (zI c))] := hl
  obtain ⟨H, eH⟩ : ∃ H, H = st.heap := ⟨_, rfl⟩
  obtain ⟨locs, eL⟩ : ∃ L : List Loc, L = [] := ⟨_, rfl⟩
  have hW : zW D (zT cI cJ cZ cP cS cM) L (zQ L sz) st (zMO cI cJ o S f) st.heap H locs := by rw [eH, eL]; exact hW
  suffices hgo : W pg l en ({ frames := 2, cells := 0, slots := 0, locals := 41 } : Room) st mi ag bl mt cd H locs 0 0 Q (F0 mi 0 ls []) by rw [eH, eL] at hgo; exact hgo
  clear eH eL
  have hpb := hI.s10
  have hbs := hI.s5
  refine lv_aload_n hX0 hB0 dX12_mark_0 rfl (lv_at hl 0 rfl) ?_
  refine z_calli hW (va_runV (C := RX12) (As := []) (rest := []) CX.fix (zk_goesWell l o S  hI ) (cwV 0 CX.fix.2.2.2.2 gX12_mark_X12_goesWell rfl rfl rfl (by decide +kernel) ⟨Nat.le_of_ble_eq_true rfl, Nat.le_of_ble_eq_true rfl⟩) (z_preV CX hW (r := (RX12, TX12, 37)) zMO_0 rfl) rfl rfl hl.1 rfl (lv_room (Nat.le_of_ble_eq_true rfl)) dX12_mark_1 ⟨Nat.zero_le _, Nat.zero_le _⟩) (fun z1 gn H locs hok hW => ?_)
  obtain ⟨hz1, hg, hq1⟩ := hok
  rw [hg] at hW
  clear hg
  have e1 : zm_goesWell S = z1 := hz1.symm
  clear hz1
  refine z_if_ne (tgt := 8) CX dX12_mark_4 (by decide) (by constructor <;> omega) (fun c_4 => ?_) (fun c_4 => ?_)
  ·
    refine lv_aload_n hX0 hB0 dX12_mark_8 rfl (lv_at hl 0 rfl) ?_
    refine z_calli hW (va_runV (C := RX12) (As := []) (rest := []) CX.fix (zk_here l o S  hI ) (cwV 0 CX.fix.2.2.2.2 gX12_mark_X12_here rfl rfl rfl (by decide +kernel) ⟨Nat.le_of_ble_eq_true rfl, Nat.le_of_ble_eq_true rfl⟩) (z_preV CX hW (r := (RX12, TX12, 37)) zMO_0 rfl) rfl rfl hl.1 rfl (lv_room (Nat.le_of_ble_eq_true rfl)) dX12_mark_9 ⟨Nat.zero_le _, Nat.zero_le _⟩) (fun z9 gn H locs hok hW => ?_)
    obtain ⟨hz9, hg, hI9, hf9, hq9⟩ := hok
    obtain ⟨S9, hS9⟩ : ∃ q, q = (zm_here S).2 := ⟨_, rfl⟩
    rw [← hS9] at hg hI9 hf9
    have t9_5 : S9 0 5 = S 0 5 := hf9 0 5 (by omega)
    have t9_8 : S9 0 8 = S 0 8 := hf9 0 8 (by omega)
    skip
    try rw [← hS9] at hq9
    rw [hg] at hW
    clear hg
    have e9 : zm_here S = (z9, S9) := Prod.ext hz9.symm hS9.symm
    clear hz9 hS9
    refine lv_iload_n hX0 hB0 dX12_mark_12 rfl (lv_at hl 1 rfl) ?_
    refine z_icmp_ne (tgt := 29) CX dX12_mark_13 (by decide) (by constructor <;> omega) (by constructor <;> omega) (fun c_13 => ?_) (fun c_13 => ?_)
    ·
      refine lv_aload_n hX0 hB0 dX12_mark_29 rfl (lv_at hl 0 rfl) ?_
      refine lv_iconst (v := zI 1) hX0 hB0 dX12_mark_30 rfl ?_
      refine lv_aload_n hX0 hB0 dX12_mark_31 rfl (lv_at hl 0 rfl) ?_
      refine z_get (Cn := RX12) (T := TX12) (N := 37) CX hW (v := .int (zI (S9 0 6))) zMO_0 rfl (fun w h => List.mem_cons_of_mem _ (List.mem_append_right _ h)) 6 (by decide) (List.mem_of_getElem? (i := 1) rfl) rfl rfl dX12_mark_32 ?_
      have hr32 := hI9.s6
      refine z_callv hW (va_runV (C := RX12) (As := [.int (zI 1), .int (zI (S9 0 6))]) (rest := []) CX.fix (zk_faults l o S9 1 (S9 0 6) hI9 (by constructor <;> omega) (by constructor <;> omega)) (cwV 2 CX.fix.2.2.2.2 gX12_mark_X12_faults rfl rfl rfl (by decide +kernel) ⟨Nat.le_of_ble_eq_true rfl, Nat.le_of_ble_eq_true rfl⟩) (z_preV CX hW (r := (RX12, TX12, 37)) zMO_0 rfl) rfl rfl hl.1 rfl (lv_room (Nat.le_of_ble_eq_true rfl)) dX12_mark_35 ⟨Nat.zero_le _, Nat.zero_le _⟩) (fun gn H locs hok hW => ?_)
      obtain ⟨hg, hI35, hf35, hq35⟩ := hok
      obtain ⟨S35, e35⟩ : ∃ q, zm_faults S9 1 (S9 0 6) = q := ⟨_, rfl⟩
      rw [e35] at hg hI35 hf35
      have t35_5 : S35 0 5 = S9 0 5 := hf35 0 5 (by omega)
      have t35_6 : S35 0 6 = S9 0 6 := hf35 0 6 (by omega)
      skip
      try rw [e35] at hq35
      rw [hg] at hW
      clear hg
      have hE : zm_mark S c = S35 := by unfold zm_mark; exact zlet_e e1 (zif_f c_4 (zlet_e e9 (zif_f c_13 (zlet_e e35 rfl))))
      have hFr : ∀ kk ii : Nat, ¬ (kk = 0 ∧ ii = 6) ∧ ¬ (kk = 0 ∧ ii = 8) ∧ ¬ (kk = 0 ∧ ii = 9) → S35 kk ii = S kk ii := fun kk ii hk => ((hf35 kk ii (by omega))).trans (hf9 kk ii (by omega))
      rw [← hQ]
      exact z_vret CX hW (by rw [hE]; exact ⟨rfl, hI35, hFr, (show S 0 6 ≤ S35 0 6 ∧ (S 0 6 ≤ S 0 5 → S35 0 6 ≤ S 0 5) ∧ (S35 0 8 = 0 → S 0 6 < S35 0 6 ∧ S 0 8 = 0) ∧ (S 0 8 ≠ 0 → S35 0 8 = S 0 8) from by omega)⟩) dX12_mark_38
    ·
      refine lv_aload_n hX0 hB0 dX12_mark_16 rfl (lv_at hl 0 rfl) ?_
      refine lv_dup hX0 hB0 dX12_mark_17 rfl ?_
      refine z_get (Cn := RX12) (T := TX12) (N := 37) CX hW (v := .int (zI (S9 0 6))) zMO_0 rfl (fun w h => List.mem_cons_of_mem _ (List.mem_append_right _ h)) 6 (by decide) (List.mem_of_getElem? (i := 1) rfl) rfl rfl dX12_mark_18 ?_
      have hr18 := hI9.s6
      refine lv_iconst (v := zI 1) hX0 hB0 dX12_mark_21 rfl ?_
      refine z_iadd (z := (S9 0 6) + 1) CX dX12_mark_22 rfl ?_
      obtain ⟨S23, e23⟩ : ∃ q, za S9 0 6 ((S9 0 6) + 1) = q := ⟨_, rfl⟩
      refine z_put (Cn := RX12) (T := TX12) (N := 37) CX hW (v := .int (zI ((S9 0 6) + 1))) zMO_0 rfl (fun w h => List.mem_cons_of_mem _ (List.mem_append_right _ h)) tyX12 tyX12_ok nmX12 6 (by decide) (List.mem_of_getElem? (i := 1) rfl) rfl rfl rfl rfl (Nat.le_of_ble_eq_true rfl) (g := zMO cI cJ o S23 f) (zMO_s6.trans (by rw [e23])) dX12_mark_23 (fun H locs hW => ?_)
      have hI23 : mI S23 := e23 ▸ hI9.v6 (by constructor <;> omega)
      have t23_5 : S23 0 5 = S9 0 5 := by rw [← e23]; exact za_ne (by omega)
      have t23_6 : S23 0 6 = (S9 0 6) + 1 := by rw [← e23]; exact za_same
      have t23_8 : S23 0 8 = S9 0 8 := by rw [← e23]; exact za_ne (by omega)
      refine lv_goto (tgt := 38) hX0 hB0 dX12_mark_26 (by decide) ?_
      have hE : zm_mark S c = S23 := by unfold zm_mark; exact zlet_e e1 (zif_f c_4 (zlet_e e9 (zif_t c_13 (zlet_e e23 rfl))))
      have hFr : ∀ kk ii : Nat, ¬ (kk = 0 ∧ ii = 6) ∧ ¬ (kk = 0 ∧ ii = 8) ∧ ¬ (kk = 0 ∧ ii = 9) → S23 kk ii = S kk ii := fun kk ii hk => ((show S23 kk ii = S9 kk ii from by rw [← e23]; exact za_ne (by omega))).trans (hf9 kk ii (by omega))
      rw [← hQ]
      exact z_vret CX hW (by rw [hE]; exact ⟨rfl, hI23, hFr, (show S 0 6 ≤ S23 0 6 ∧ (S 0 6 ≤ S 0 5 → S23 0 6 ≤ S 0 5) ∧ (S23 0 8 = 0 → S 0 6 < S23 0 6 ∧ S 0 8 = 0) ∧ (S 0 8 ≠ 0 → S23 0 8 = S 0 8) from by omega)⟩) dX12_mark_38
  ·
    have hE : zm_mark S c = S := by unfold zm_mark; exact zlet_e e1 (zif_t c_4 rfl)
    have hFr : ∀ kk ii : Nat, ¬ (kk = 0 ∧ ii = 6) ∧ ¬ (kk = 0 ∧ ii = 8) ∧ ¬ (kk = 0 ∧ ii = 9) → S kk ii = S kk ii := fun kk ii hk => rfl
    rw [← hQ]
    exact z_vret CX hW (by rw [hE]; exact ⟨rfl, hI, hFr, (show S 0 6 ≤ S 0 6 ∧ (S 0 6 ≤ S 0 5 → S 0 6 ≤ S 0 5) ∧ (S 0 8 = 0 → S 0 6 < S 0 6 ∧ S 0 8 = 0) ∧ (S 0 8 ≠ 0 → S 0 8 = S 0 8) from by omega)⟩) dX12_mark_7
def zm_isWordHere (S : zS2)  : Int × zS2 := zlet (zm_here S) (fun q1 => (fun (z1 : Int) (S1 : zS2) => zlet (zm_goesWell S1) (fun z6 => (if z6 = 0 then (0, S1) else zlet (zm_isSmall S1 (S1 0 6)) (fun z17 => (if z17 = 0 then (0, S1) else zlet (zm_isSmall S1 ((S1 0 6) - 1)) (fun z30 => (if z30 = 0 then zlet (zm_isDigit S1 ((S1 0 6) - 1)) (fun z43 => (if z43 = 0 then (1, S1) else (0, S1))) else (0, S1)))))))) q1.1 q1.2)
set_option maxRecDepth 100000 in
set_option maxHeartbeats 4000000 in
theorem zk_isWordHere (l : Launch) {D : va_G} {cI cJ cZ cP cS cM : ClassId} {L : List Nat} {sz : Nat} {f : Nat → va_E} (o : Nat) (S : zS2)  (hI : mI S)  : zMi l yX12_isWordHere wsX12_isWordHere 2 42 D (zT cI cJ cZ cP cS cM) L sz (zMO cI cJ o S f) [.ref o] (fun zv gv => zv = (zm_isWordHere S).1 ∧ gv = zMO cI cJ o (zm_isWordHere S).2 f ∧ mI (zm_isWordHere S).2 ∧ (∀ kk ii : Nat, ¬ (kk = 0 ∧ ii = 6) → (zm_isWordHere S).2 kk ii = S kk ii) ∧ S 0 6 ≤ ((zm_isWordHere S).2) 0 6 ∧ (S 0 6 ≤ S 0 5 → ((zm_isWordHere S).2) 0 6 ≤ S 0 5) ∧ 0 ≤ zv ∧ zv ≤ 1 ∧ (zv ≠ 0 → ((zm_isWordHere S).2) 0 6 < S 0 5 ∧ S 0 8 = 0)) := by
  refine zWalk.met (nL := 1) (ret := (some .boolean)) (cc := cX12_isWordHere) (by decide) rfl (Nat.le_of_ble_eq_true rfl) ?_
  intro pg en st mi ag bl mt cd ls CX hW hl
  have CX : zC pg st mi ag mt cd cX12_isWordHere 1 (some .boolean) RX12 wsX12_isWordHere := CX
  generalize hQ : MQ bl _ ag st 0 0 _ = Q
  have hX0 := CX.1
  have hB0 := CX.2.1
  have hl : lv_has ls 1 [(0, .ref o)] := hl
  obtain ⟨H, eH⟩ : ∃ H, H = st.heap := ⟨_, rfl⟩
  obtain ⟨locs, eL⟩ : ∃ L : List Loc, L = [] := ⟨_, rfl⟩
  have hW : zW D (zT cI cJ cZ cP cS cM) L (zQ L sz) st (zMO cI cJ o S f) st.heap H locs := by rw [eH, eL]; exact hW
  suffices hgo : W pg l en ({ frames := 2, cells := 0, slots := 0, locals := 42 } : Room) st mi ag bl mt cd H locs 0 0 Q (F0 mi 0 ls []) by rw [eH, eL] at hgo; exact hgo
  clear eH eL
  have hpb := hI.s10
  refine lv_aload_n hX0 hB0 dX12_isWordHere_0 rfl (lv_at hl 0 rfl) ?_
  refine z_calli hW (va_runV (C := RX12) (As := []) (rest := []) CX.fix (zk_here l o S  hI ) (cwV 0 CX.fix.2.2.2.2 gX12_isWordHere_X12_here rfl rfl rfl (by decide +kernel) ⟨Nat.le_of_ble_eq_true rfl, Nat.le_of_ble_eq_true rfl⟩) (z_preV CX hW (r := (RX12, TX12, 37)) zMO_0 rfl) rfl rfl hl.1 rfl (lv_room (Nat.le_of_ble_eq_true rfl)) dX12_isWordHere_1 ⟨Nat.zero_le _, Nat.zero_le _⟩) (fun z1 gn H locs hok hW => ?_)
  obtain ⟨hz1, hg, hI1, hf1, hq1⟩ := hok
  obtain ⟨S1, hS1⟩ : ∃ q, q = (zm_here S).2 := ⟨_, rfl⟩
  rw [← hS1] at hg hI1 hf1
  have t1_5 : S1 0 5 = S 0 5 := hf1 0 5 (by omega)
  have t1_8 : S1 0 8 = S 0 8 := hf1 0 8 (by omega)
  skip
  try rw [← hS1] at hq1
  rw [hg] at hW
  clear hg
  have e1 : zm_here S = (z1, S1) := Prod.ext hz1.symm hS1.symm
  clear hz1 hS1
  refine lv_pop hX0 hB0 dX12_isWordHere_4 rfl ?_
  refine lv_aload_n hX0 hB0 dX12_isWordHere_5 rfl (lv_at hl 0 rfl) ?_
  refine z_calli hW (va_runV (C := RX12) (As := []) (rest := []) CX.fix (zk_goesWell l o S1  hI1 ) (cwV 0 CX.fix.2.2.2.2 gX12_isWordHere_X12_goesWell rfl rfl rfl (by decide +kernel) ⟨Nat.le_of_ble_eq_true rfl, Nat.le_of_ble_eq_true rfl⟩) (z_preV CX hW (r := (RX12, TX12, 37)) zMO_0 rfl) rfl rfl hl.1 rfl (lv_room (Nat.le_of_ble_eq_true rfl)) dX12_isWordHere_6 ⟨Nat.zero_le _, Nat.zero_le _⟩) (fun z6 gn H locs hok hW => ?_)
  obtain ⟨hz6, hg, hq6⟩ := hok
  rw [hg] at hW
  clear hg
  have e6 : zm_goesWell S1 = z6 := hz6.symm
  clear hz6
  refine z_if_eq (tgt := 53) CX dX12_isWordHere_9 (by decide) (by constructor <;> omega) (fun c_9 => ?_) (fun c_9 => ?_)
  ·
    refine lv_iconst (v := zI 0) hX0 hB0 dX12_isWordHere_53 rfl ?_
    have hE : zm_isWordHere S = (0, S1) := by unfold zm_isWordHere; exact zlet_e e1 (zlet_e e6 (zif_t c_9 rfl))
    have hFr : ∀ kk ii : Nat, ¬ (kk = 0 ∧ ii = 6) → S1 kk ii = S kk ii := fun kk ii hk => (hf1 kk ii (by omega))
    rw [← hQ]
    exact z_iret (z := 0) CX hW (by rw [hE]; exact ⟨rfl, rfl, hI1, hFr, (show S 0 6 ≤ S1 0 6 ∧ (S 0 6 ≤ S 0 5 → S1 0 6 ≤ S 0 5) ∧ 0 ≤ (0 : Int) ∧ (0 : Int) ≤ 1 ∧ ((0 : Int) ≠ 0 → S1 0 6 < S 0 5 ∧ S 0 8 = 0) from by omega)⟩) rfl dX12_isWordHere_54
  ·
    refine lv_aload_n hX0 hB0 dX12_isWordHere_12 rfl (lv_at hl 0 rfl) ?_
    refine lv_aload_n hX0 hB0 dX12_isWordHere_13 rfl (lv_at hl 0 rfl) ?_
    refine z_get (Cn := RX12) (T := TX12) (N := 37) CX hW (v := .int (zI (S1 0 6))) zMO_0 rfl (fun w h => List.mem_cons_of_mem _ (List.mem_append_right _ h)) 6 (by decide) (List.mem_of_getElem? (i := 1) rfl) rfl rfl dX12_isWordHere_14 ?_
    have hr14 := hI1.s6
    refine z_calli hW (va_runV (C := RX12) (As := [.int (zI (S1 0 6))]) (rest := []) CX.fix (zk_isSmall l o S1 (S1 0 6) hI1 (by constructor <;> omega)) (cwV 1 CX.fix.2.2.2.2 gX12_isWordHere_X12_isSmall rfl rfl rfl (by decide +kernel) ⟨Nat.le_of_ble_eq_true rfl, Nat.le_of_ble_eq_true rfl⟩) (z_preV CX hW (r := (RX12, TX12, 37)) zMO_0 rfl) rfl rfl hl.1 rfl (lv_room (Nat.le_of_ble_eq_true rfl)) dX12_isWordHere_17 ⟨Nat.zero_le _, Nat.zero_le _⟩) (fun z17 gn H locs hok hW => ?_)
    obtain ⟨hz17, hg, hq17⟩ := hok
    rw [hg] at hW
    clear hg
    have e17 : zm_isSmall S1 (S1 0 6) = z17 := hz17.symm
    clear hz17
    refine z_if_eq (tgt := 53) CX dX12_isWordHere_20 (by decide) (by constructor <;> omega) (fun c_20 => ?_) (fun c_20 => ?_)
    ·
      refine lv_iconst (v := zI 0) hX0 hB0 dX12_isWordHere_53 rfl ?_
      have hE : zm_isWordHere S = (0, S1) := by unfold zm_isWordHere; exact zlet_e e1 (zlet_e e6 (zif_f c_9 (zlet_e e17 (zif_t c_20 rfl))))
      have hFr : ∀ kk ii : Nat, ¬ (kk = 0 ∧ ii = 6) → S1 kk ii = S kk ii := fun kk ii hk => (hf1 kk ii (by omega))
      rw [← hQ]
      exact z_iret (z := 0) CX hW (by rw [hE]; exact ⟨rfl, rfl, hI1, hFr, (show S 0 6 ≤ S1 0 6 ∧ (S 0 6 ≤ S 0 5 → S1 0 6 ≤ S 0 5) ∧ 0 ≤ (0 : Int) ∧ (0 : Int) ≤ 1 ∧ ((0 : Int) ≠ 0 → S1 0 6 < S 0 5 ∧ S 0 8 = 0) from by omega)⟩) rfl dX12_isWordHere_54
    ·
      refine lv_aload_n hX0 hB0 dX12_isWordHere_23 rfl (lv_at hl 0 rfl) ?_
      refine lv_aload_n hX0 hB0 dX12_isWordHere_24 rfl (lv_at hl 0 rfl) ?_
      refine z_get (Cn := RX12) (T := TX12) (N := 37) CX hW (v := .int (zI (S1 0 6))) zMO_0 rfl (fun w h => List.mem_cons_of_mem _ (List.mem_append_right _ h)) 6 (by decide) (List.mem_of_getElem? (i := 1) rfl) rfl rfl dX12_isWordHere_25 ?_
      have hr25 := hI1.s6
      refine lv_iconst (v := zI 1) hX0 hB0 dX12_isWordHere_28 rfl ?_
      refine z_isub (z := (S1 0 6) - 1) CX dX12_isWordHere_29 rfl ?_
      refine z_calli hW (va_runV (C := RX12) (As := [.int (zI ((S1 0 6) - 1))]) (rest := []) CX.fix (zk_isSmall l o S1 ((S1 0 6) - 1) hI1 (by constructor <;> omega)) (cwV 1 CX.fix.2.2.2.2 gX12_isWordHere_X12_isSmall rfl rfl rfl (by decide +kernel) ⟨Nat.le_of_ble_eq_true rfl, Nat.le_of_ble_eq_true rfl⟩) (z_preV CX hW (r := (RX12, TX12, 37)) zMO_0 rfl) rfl rfl hl.1 rfl (lv_room (Nat.le_of_ble_eq_true rfl)) dX12_isWordHere_30 ⟨Nat.zero_le _, Nat.zero_le _⟩) (fun z30 gn H locs hok hW => ?_)
      obtain ⟨hz30, hg, hq30⟩ := hok
      rw [hg] at hW
      clear hg
      have e30 : zm_isSmall S1 ((S1 0 6) - 1) = z30 := hz30.symm
      clear hz30
      refine z_if_ne (tgt := 53) CX dX12_isWordHere_33 (by decide) (by constructor <;> omega) (fun c_33 => ?_) (fun c_33 => ?_)
      ·
        refine lv_iconst (v := zI 0) hX0 hB0 dX12_isWordHere_53 rfl ?_
        have hE : zm_isWordHere S = (0, S1) := by unfold zm_isWordHere; exact zlet_e e1 (zlet_e e6 (zif_f c_9 (zlet_e e17 (zif_f c_20 (zlet_e e30 (zif_f c_33 rfl))))))
        have hFr : ∀ kk ii : Nat, ¬ (kk = 0 ∧ ii = 6) → S1 kk ii = S kk ii := fun kk ii hk => (hf1 kk ii (by omega))
        rw [← hQ]
        exact z_iret (z := 0) CX hW (by rw [hE]; exact ⟨rfl, rfl, hI1, hFr, (show S 0 6 ≤ S1 0 6 ∧ (S 0 6 ≤ S 0 5 → S1 0 6 ≤ S 0 5) ∧ 0 ≤ (0 : Int) ∧ (0 : Int) ≤ 1 ∧ ((0 : Int) ≠ 0 → S1 0 6 < S 0 5 ∧ S 0 8 = 0) from by omega)⟩) rfl dX12_isWordHere_54
      ·
        refine lv_aload_n hX0 hB0 dX12_isWordHere_36 rfl (lv_at hl 0 rfl) ?_
        refine lv_aload_n hX0 hB0 dX12_isWordHere_37 rfl (lv_at hl 0 rfl) ?_
        refine z_get (Cn := RX12) (T := TX12) (N := 37) CX hW (v := .int (zI (S1 0 6))) zMO_0 rfl (fun w h => List.mem_cons_of_mem _ (List.mem_append_right _ h)) 6 (by decide) (List.mem_of_getElem? (i := 1) rfl) rfl rfl dX12_isWordHere_38 ?_
        have hr38 := hI1.s6
        refine lv_iconst (v := zI 1) hX0 hB0 dX12_isWordHere_41 rfl ?_
        refine z_isub (z := (S1 0 6) - 1) CX dX12_isWordHere_42 rfl ?_
        refine z_calli hW (va_runV (C := RX12) (As := [.int (zI ((S1 0 6) - 1))]) (rest := []) CX.fix (zk_isDigit l o S1 ((S1 0 6) - 1) hI1 (by constructor <;> omega)) (cwV 1 CX.fix.2.2.2.2 gX12_isWordHere_X12_isDigit rfl rfl rfl (by decide +kernel) ⟨Nat.le_of_ble_eq_true rfl, Nat.le_of_ble_eq_true rfl⟩) (z_preV CX hW (r := (RX12, TX12, 37)) zMO_0 rfl) rfl rfl hl.1 rfl (lv_room (Nat.le_of_ble_eq_true rfl)) dX12_isWordHere_43 ⟨Nat.zero_le _, Nat.zero_le _⟩) (fun z43 gn H locs hok hW => ?_)
        obtain ⟨hz43, hg, hq43⟩ := hok
        rw [hg] at hW
        clear hg
        have e43 : zm_isDigit S1 ((S1 0 6) - 1) = z43 := hz43.symm
        clear hz43
        refine z_if_ne (tgt := 53) CX dX12_isWordHere_46 (by decide) (by constructor <;> omega) (fun c_46 => ?_) (fun c_46 => ?_)
        ·
          refine lv_iconst (v := zI 0) hX0 hB0 dX12_isWordHere_53 rfl ?_
          have hE : zm_isWordHere S = (0, S1) := by unfold zm_isWordHere; exact zlet_e e1 (zlet_e e6 (zif_f c_9 (zlet_e e17 (zif_f c_20 (zlet_e e30 (zif_t c_33 (zlet_e e43 (zif_f c_46 rfl))))))))
          have hFr : ∀ kk ii : Nat, ¬ (kk = 0 ∧ ii = 6) → S1 kk ii = S kk ii := fun kk ii hk => (hf1 kk ii (by omega))
          rw [← hQ]
          exact z_iret (z := 0) CX hW (by rw [hE]; exact ⟨rfl, rfl, hI1, hFr, (show S 0 6 ≤ S1 0 6 ∧ (S 0 6 ≤ S 0 5 → S1 0 6 ≤ S 0 5) ∧ 0 ≤ (0 : Int) ∧ (0 : Int) ≤ 1 ∧ ((0 : Int) ≠ 0 → S1 0 6 < S 0 5 ∧ S 0 8 = 0) from by omega)⟩) rfl dX12_isWordHere_54
        ·
          refine lv_iconst (v := zI 1) hX0 hB0 dX12_isWordHere_49 rfl ?_
          refine lv_goto (tgt := 54) hX0 hB0 dX12_isWordHere_50 (by decide) ?_
          have hE : zm_isWordHere S = (1, S1) := by unfold zm_isWordHere; exact zlet_e e1 (zlet_e e6 (zif_f c_9 (zlet_e e17 (zif_f c_20 (zlet_e e30 (zif_t c_33 (zlet_e e43 (zif_t c_46 rfl))))))))
          have hFr : ∀ kk ii : Nat, ¬ (kk = 0 ∧ ii = 6) → S1 kk ii = S kk ii := fun kk ii hk => (hf1 kk ii (by omega))
          rw [← hQ]
          exact z_iret (z := 1) CX hW (by rw [hE]; exact ⟨rfl, rfl, hI1, hFr, (show S 0 6 ≤ S1 0 6 ∧ (S 0 6 ≤ S 0 5 → S1 0 6 ≤ S 0 5) ∧ 0 ≤ (1 : Int) ∧ (1 : Int) ≤ 1 ∧ ((1 : Int) ≠ 0 → S1 0 6 < S 0 5 ∧ S 0 8 = 0) from by omega)⟩) rfl dX12_isWordHere_54
def zm_word_W33  : Nat → zS2 → zS2
  | 0, S33 => S33
  | fu33 + 1, S33 => zlet (zm_isSmall S33 (S33 0 6)) (fun z38 => (if z38 = 0 then S33 else zlet (za S33 0 6 ((S33 0 6) + 1)) (fun S51 => zm_word_W33 fu33 S51)))
def zm_word (S : zS2)  : zS2 := zlet (zm_goesWell S) (fun z1 => (if z1 = 0 then S else zlet (zm_isWordHere S) (fun q9 => (fun (z9 : Int) (S9 : zS2) => (if z9 = 0 then zlet (zm_faults S9 1 (S9 0 6)) (fun S21 => S21) else zlet (za S9 0 7 (S9 0 6)) (fun S30 => zlet (zm_word_W33 ((1001 : Nat)) S30) (fun S33 => S33)))) q9.1 q9.2)))
set_option maxRecDepth 100000 in
set_option maxHeartbeats 4000000 in
theorem zk_word (l : Launch) {D : va_G} {cI cJ cZ cP cS cM : ClassId} {L : List Nat} {sz : Nat} {f : Nat → va_E} (o : Nat) (S : zS2)  (hI : mI S)  : zMv l yX12_word wsX12_word 3 62 D (zT cI cJ cZ cP cS cM) L sz (zMO cI cJ o S f) [.ref o] (fun gv => gv = zMO cI cJ o (zm_word S) f ∧ mI (zm_word S) ∧ (∀ kk ii : Nat, ¬ (kk = 0 ∧ ii = 6) ∧ ¬ (kk = 0 ∧ ii = 7) ∧ ¬ (kk = 0 ∧ ii = 8) ∧ ¬ (kk = 0 ∧ ii = 9) → (zm_word S) kk ii = S kk ii) ∧ (S 0 6 ≤ (zm_word S) 0 6 ∧ (S 0 6 ≤ S 0 5 → (zm_word S) 0 6 ≤ S 0 5)) ∧ ((zm_word S) 0 8 = 0 → S 0 8 = 0 ∧ (zm_word S) 0 7 ≤ (zm_word S) 0 6 ∧ S 0 6 ≤ (zm_word S) 0 7) ∧ (S 0 8 ≠ 0 → (zm_word S) 0 8 = S 0 8) ∧ ((zm_word S) 0 8 = 0 → (∀ k : Nat, (zm_word S) 0 7 ≤ k → (k : Int) < (zm_word S) 0 6 → 97 ≤ S 1 k ∧ S 1 k ≤ 122))) := by
  refine zWalk.met (nL := 1) (ret := none) (cc := cX12_word) (by decide) rfl (Nat.le_of_ble_eq_true rfl) ?_
  intro pg en st mi ag bl mt cd ls CX hW hl
  have CX : zC pg st mi ag mt cd cX12_word 1 none RX12 wsX12_word := CX
  generalize hQ : MQ bl _ ag st 0 0 _ = Q
  have hX0 := CX.1
  have hB0 := CX.2.1
  have hl : lv_has ls 1 [(0, .ref o)] := hl
  obtain ⟨H, eH⟩ : ∃ H, H = st.heap := ⟨_, rfl⟩
  obtain ⟨locs, eL⟩ : ∃ L : List Loc, L = [] := ⟨_, rfl⟩
  have hW : zW D (zT cI cJ cZ cP cS cM) L (zQ L sz) st (zMO cI cJ o S f) st.heap H locs := by rw [eH, eL]; exact hW
  suffices hgo : W pg l en ({ frames := 3, cells := 0, slots := 0, locals := 62 } : Room) st mi ag bl mt cd H locs 0 0 Q (F0 mi 0 ls []) by rw [eH, eL] at hgo; exact hgo
  clear eH eL
  have hpb := hI.s10
  have hbs := hI.s5
  have hba := hI.s6
  have hbb := hI.s7
  refine lv_aload_n hX0 hB0 dX12_word_0 rfl (lv_at hl 0 rfl) ?_
  refine z_calli hW (va_runV (C := RX12) (As := []) (rest := []) CX.fix (zk_goesWell l o S  hI ) (cwV 0 CX.fix.2.2.2.2 gX12_word_X12_goesWell rfl rfl rfl (by decide +kernel) ⟨Nat.le_of_ble_eq_true rfl, Nat.le_of_ble_eq_true rfl⟩) (z_preV CX hW (r := (RX12, TX12, 37)) zMO_0 rfl) rfl rfl hl.1 rfl (lv_room (Nat.le_of_ble_eq_true rfl)) dX12_word_1 ⟨Nat.zero_le _, Nat.zero_le _⟩) (fun z1 gn H locs hok hW => ?_)
  obtain ⟨hz1, hg, hq1⟩ := hok
  rw [hg] at hW
  clear hg
  have e1 : zm_goesWell S = z1 := hz1.symm
  clear hz1
  refine z_if_ne (tgt := 8) CX dX12_word_4 (by decide) (by constructor <;> omega) (fun c_4 => ?_) (fun c_4 => ?_)
  ·
    refine lv_aload_n hX0 hB0 dX12_word_8 rfl (lv_at hl 0 rfl) ?_
    refine z_calli hW (va_runV (C := RX12) (As := []) (rest := []) CX.fix (zk_isWordHere l o S  hI ) (cwV 0 CX.fix.2.2.2.2 gX12_word_X12_isWordHere rfl rfl rfl (by decide +kernel) ⟨Nat.le_of_ble_eq_true rfl, Nat.le_of_ble_eq_true rfl⟩) (z_preV CX hW (r := (RX12, TX12, 37)) zMO_0 rfl) rfl rfl hl.1 rfl (lv_room (Nat.le_of_ble_eq_true rfl)) dX12_word_9 ⟨Nat.zero_le _, Nat.zero_le _⟩) (fun z9 gn H locs hok hW => ?_)
    obtain ⟨hz9, hg, hI9, hf9, hq9⟩ := hok
    obtain ⟨S9, hS9⟩ : ∃ q, q = (zm_isWordHere S).2 := ⟨_, rfl⟩
    rw [← hS9] at hg hI9 hf9
    have t9_5 : S9 0 5 = S 0 5 := hf9 0 5 (by omega)
    have t9_7 : S9 0 7 = S 0 7 := hf9 0 7 (by omega)
    have t9_8 : S9 0 8 = S 0 8 := hf9 0 8 (by omega)
    skip
    try rw [← hS9] at hq9
    rw [hg] at hW
    clear hg
    have e9 : zm_isWordHere S = (z9, S9) := Prod.ext hz9.symm hS9.symm
    clear hz9 hS9
    refine z_if_ne (tgt := 25) CX dX12_word_12 (by decide) (by constructor <;> omega) (fun c_12 => ?_) (fun c_12 => ?_)
    ·
      refine lv_aload_n hX0 hB0 dX12_word_25 rfl (lv_at hl 0 rfl) ?_
      refine lv_aload_n hX0 hB0 dX12_word_26 rfl (lv_at hl 0 rfl) ?_
      refine z_get (Cn := RX12) (T := TX12) (N := 37) CX hW (v := .int (zI (S9 0 6))) zMO_0 rfl (fun w h => List.mem_cons_of_mem _ (List.mem_append_right _ h)) 6 (by decide) (List.mem_of_getElem? (i := 1) rfl) rfl rfl dX12_word_27 ?_
      have hr27 := hI9.s6
      obtain ⟨S30, e30⟩ : ∃ q, za S9 0 7 (S9 0 6) = q := ⟨_, rfl⟩
      refine z_put (Cn := RX12) (T := TX12) (N := 37) CX hW (v := .int (zI (S9 0 6))) zMO_0 rfl (fun w h => List.mem_cons_of_mem _ (List.mem_append_right _ h)) tyX12 tyX12_ok nmX12 7 (by decide) (List.mem_of_getElem? (i := 2) rfl) rfl rfl rfl rfl (Nat.le_of_ble_eq_true rfl) (g := zMO cI cJ o S30 f) (zMO_s7.trans (by rw [e30])) dX12_word_30 (fun H locs hW => ?_)
      have hI30 : mI S30 := e30 ▸ hI9.v7 (by constructor <;> omega)
      have t30_5 : S30 0 5 = S9 0 5 := by rw [← e30]; exact za_ne (by omega)
      have t30_6 : S30 0 6 = S9 0 6 := by rw [← e30]; exact za_ne (by omega)
      have t30_7 : S30 0 7 = S9 0 6 := by rw [← e30]; exact za_same
      have t30_8 : S30 0 8 = S9 0 8 := by rw [← e30]; exact za_ne (by omega)
      have hXt33 : ∀ (S33 : zS2), (zm_word_W33 ((1001 : Nat)) S30 = S33 ∧ mI S33 ∧ (∀ kk ii : Nat, ¬ (kk = 0 ∧ ii = 6) → S33 kk ii = S30 kk ii) ∧ (S 0 6 ≤ S33 0 7 ∧ S33 0 7 ≤ S33 0 6 ∧ (S 0 6 ≤ S 0 5 → S33 0 6 ≤ S 0 5) ∧ (∀ k : Nat, S33 0 7 ≤ k → (k : Int) < S33 0 6 → 97 ≤ S 1 k ∧ S 1 k ≤ 122))) → ∀ (H : Heap) (locs : List Loc) (ls : Array Slot), zW D (zT cI cJ cZ cP cS cM) L (zQ L sz) st (zMO cI cJ o S33 f) st.heap H locs → lv_has ls 1 [(0, .ref o)] → W pg l en ({ frames := 3, cells := 0, slots := 0, locals := 62 } : Room) st mi ag bl mt cd H locs 0 0 Q (F0 mi 57 ls []) := by
        intro S33 hinv H locs ls hW hl
        obtain ⟨e33, hI33, hf33, hv33⟩ := hinv
        have hp33 := hI33.s10
        have t33_5 : S33 0 5 = S30 0 5 := hf33 0 5 (by omega)
        have t33_7 : S33 0 7 = S30 0 7 := hf33 0 7 (by omega)
        have t33_8 : S33 0 8 = S30 0 8 := hf33 0 8 (by omega)
        have hE : zm_word S = S33 := by unfold zm_word; exact zlet_e e1 (zif_f c_4 (zlet_e e9 (zif_f c_12 (zlet_e e30 (zlet_e e33 rfl)))))
        have hFr : ∀ kk ii : Nat, ¬ (kk = 0 ∧ ii = 6) ∧ ¬ (kk = 0 ∧ ii = 7) ∧ ¬ (kk = 0 ∧ ii = 8) ∧ ¬ (kk = 0 ∧ ii = 9) → S33 kk ii = S kk ii := fun kk ii hk => (((hf33 kk ii (by omega))).trans (show S30 kk ii = S9 kk ii from by rw [← e30]; exact za_ne (by omega))).trans (hf9 kk ii (by omega))
        rw [← hQ]
        exact z_vret CX hW (by rw [hE]; exact ⟨rfl, hI33, hFr, (show (S 0 6 ≤ S33 0 6 ∧ (S 0 6 ≤ S 0 5 → S33 0 6 ≤ S 0 5)) ∧ (S33 0 8 = 0 → S 0 8 = 0 ∧ S33 0 7 ≤ S33 0 6 ∧ S 0 6 ≤ S33 0 7) ∧ (S 0 8 ≠ 0 → S33 0 8 = S 0 8) ∧ (S33 0 8 = 0 → (∀ k : Nat, S33 0 7 ≤ k → (k : Int) < S33 0 6 → 97 ≤ S 1 k ∧ S 1 k ≤ 122)) from by (refine ⟨by omega, by omega, by omega, ?_⟩; first | exact fun h => absurd h (by omega) | exact fun _ => hv33.2.2.2))⟩) dX12_word_57
      have hL33 : ∀ (fu : Nat) (S33 : zS2), (zm_word_W33 ((1001 : Nat)) S30 = zm_word_W33 fu S33 ∧ mI S33 ∧ (∀ kk ii : Nat, ¬ (kk = 0 ∧ ii = 6) → S33 kk ii = S30 kk ii) ∧ (S 0 6 ≤ S33 0 7 ∧ S33 0 7 ≤ S33 0 6 ∧ (S 0 6 ≤ S 0 5 → S33 0 6 ≤ S 0 5) ∧ (∀ k : Nat, S33 0 7 ≤ k → (k : Int) < S33 0 6 → 97 ≤ S 1 k ∧ S 1 k ≤ 122))) → (S33 0 5 - S33 0 6).toNat < fu → ∀ (H : Heap) (locs : List Loc) (ls : Array Slot), zW D (zT cI cJ cZ cP cS cM) L (zQ L sz) st (zMO cI cJ o S33 f) st.heap H locs → lv_has ls 1 [(0, .ref o)] → W pg l en ({ frames := 3, cells := 0, slots := 0, locals := 62 } : Room) st mi ag bl mt cd H locs 0 0 Q (F0 mi 33 ls []) := by
        intro fu
        induction fu with
        | zero => intro S33 _ hfu; exact absurd hfu (Nat.not_lt_zero _)
        | succ fu ih33 =>
          intro S33 hinv hfu33 H locs ls hW hl
          obtain ⟨hz33, hI33, hf33, hv33⟩ := hinv
          have hp33 := hI33.s10
          have t33_5 : S33 0 5 = S30 0 5 := hf33 0 5 (by omega)
          have t33_7 : S33 0 7 = S30 0 7 := hf33 0 7 (by omega)
          have t33_8 : S33 0 8 = S30 0 8 := hf33 0 8 (by omega)
          have hb6 := hI33.s6
          refine lv_aload_n hX0 hB0 dX12_word_33 rfl (lv_at hl 0 rfl) ?_
          refine lv_aload_n hX0 hB0 dX12_word_34 rfl (lv_at hl 0 rfl) ?_
          refine z_get (Cn := RX12) (T := TX12) (N := 37) CX hW (v := .int (zI (S33 0 6))) zMO_0 rfl (fun w h => List.mem_cons_of_mem _ (List.mem_append_right _ h)) 6 (by decide) (List.mem_of_getElem? (i := 1) rfl) rfl rfl dX12_word_35 ?_
          have hr35 := hI33.s6
          refine z_calli hW (va_runV (C := RX12) (As := [.int (zI (S33 0 6))]) (rest := []) CX.fix (zk_isSmall l o S33 (S33 0 6) hI33 (by constructor <;> omega)) (cwV 1 CX.fix.2.2.2.2 gX12_word_X12_isSmall rfl rfl rfl (by decide +kernel) ⟨Nat.le_of_ble_eq_true rfl, Nat.le_of_ble_eq_true rfl⟩) (z_preV CX hW (r := (RX12, TX12, 37)) zMO_0 rfl) rfl rfl hl.1 rfl (lv_room (Nat.le_of_ble_eq_true rfl)) dX12_word_38 ⟨Nat.zero_le _, Nat.zero_le _⟩) (fun z38 gn H locs hok hW => ?_)
          obtain ⟨hz38, hg, hq38⟩ := hok
          rw [hg] at hW
          clear hg
          have e38 : zm_isSmall S33 (S33 0 6) = z38 := hz38.symm
          clear hz38
          refine z_if_eq (tgt := 57) CX dX12_word_41 (by decide) (by constructor <;> omega) (fun c_41 => ?_) (fun c_41 => ?_)
          ·
            exact hXt33 S33 ⟨hz33.trans (by rw [zm_word_W33]; exact zlet_e e38 (zif_t c_41 rfl)), hI33, fun kk ii hk => (hf33 kk ii (by omega)), by omega⟩ H locs ls hW (lv_sub hl [0] rfl)
          ·
            refine lv_aload_n hX0 hB0 dX12_word_44 rfl (lv_at hl 0 rfl) ?_
            refine lv_dup hX0 hB0 dX12_word_45 rfl ?_
            refine z_get (Cn := RX12) (T := TX12) (N := 37) CX hW (v := .int (zI (S33 0 6))) zMO_0 rfl (fun w h => List.mem_cons_of_mem _ (List.mem_append_right _ h)) 6 (by decide) (List.mem_of_getElem? (i := 1) rfl) rfl rfl dX12_word_46 ?_
            have hr46 := hI33.s6
            refine lv_iconst (v := zI 1) hX0 hB0 dX12_word_49 rfl ?_
            refine z_iadd (z := (S33 0 6) + 1) CX dX12_word_50 rfl ?_
            obtain ⟨S51, e51⟩ : ∃ q, za S33 0 6 ((S33 0 6) + 1) = q := ⟨_, rfl⟩
            refine z_put (Cn := RX12) (T := TX12) (N := 37) CX hW (v := .int (zI ((S33 0 6) + 1))) zMO_0 rfl (fun w h => List.mem_cons_of_mem _ (List.mem_append_right _ h)) tyX12 tyX12_ok nmX12 6 (by decide) (List.mem_of_getElem? (i := 1) rfl) rfl rfl rfl rfl (Nat.le_of_ble_eq_true rfl) (g := zMO cI cJ o S51 f) (zMO_s6.trans (by rw [e51])) dX12_word_51 (fun H locs hW => ?_)
            have hI51 : mI S51 := e51 ▸ hI33.v6 (by constructor <;> omega)
            have t51_5 : S51 0 5 = S33 0 5 := by rw [← e51]; exact za_ne (by omega)
            have t51_6 : S51 0 6 = (S33 0 6) + 1 := by rw [← e51]; exact za_same
            have t51_7 : S51 0 7 = S33 0 7 := by rw [← e51]; exact za_ne (by omega)
            have t51_8 : S51 0 8 = S33 0 8 := by rw [← e51]; exact za_ne (by omega)
            refine lv_goto (tgt := 33) hX0 hB0 dX12_word_54 (by decide) ?_
            exact ih33 S51 ⟨hz33.trans (by rw [zm_word_W33]; exact zlet_e e38 (zif_f c_41 (zlet_e e51 rfl))), hI51, fun kk ii hk => ((show S51 kk ii = S33 kk ii from by rw [← e51]; exact za_ne (by omega))).trans (hf33 kk ii (by omega)), ⟨by omega, by omega, by omega, fun k h1 h2 => by
              by_cases e : (k : Int) < S33 0 6
              · exact hv33.2.2.2 k (by omega) e
              · have e1 : k = (S33 0 6).toNat := by omega
                have e2 : S33 1 k = S 1 k := (hf33 1 k (by omega)).trans ((show S30 1 k = S9 1 k from by rw [← e30]; exact za_ne (by omega)).trans (hf9 1 k (by omega)))
                rw [← e2, e1]; omega⟩⟩ (by omega) H locs ls hW (lv_sub hl [0] rfl)
      exact hL33 _ S30 ⟨rfl, hI30, fun kk ii hk => rfl, ⟨by omega, by omega, by omega, fun k h1 h2 => by omega⟩⟩ (by omega) H locs ls hW (lv_sub hl [0] rfl)
    ·
      refine lv_aload_n hX0 hB0 dX12_word_15 rfl (lv_at hl 0 rfl) ?_
      refine lv_iconst (v := zI 1) hX0 hB0 dX12_word_16 rfl ?_
      refine lv_aload_n hX0 hB0 dX12_word_17 rfl (lv_at hl 0 rfl) ?_
      refine z_get (Cn := RX12) (T := TX12) (N := 37) CX hW (v := .int (zI (S9 0 6))) zMO_0 rfl (fun w h => List.mem_cons_of_mem _ (List.mem_append_right _ h)) 6 (by decide) (List.mem_of_getElem? (i := 1) rfl) rfl rfl dX12_word_18 ?_
      have hr18 := hI9.s6
      refine z_callv hW (va_runV (C := RX12) (As := [.int (zI 1), .int (zI (S9 0 6))]) (rest := []) CX.fix (zk_faults l o S9 1 (S9 0 6) hI9 (by constructor <;> omega) (by constructor <;> omega)) (cwV 2 CX.fix.2.2.2.2 gX12_word_X12_faults rfl rfl rfl (by decide +kernel) ⟨Nat.le_of_ble_eq_true rfl, Nat.le_of_ble_eq_true rfl⟩) (z_preV CX hW (r := (RX12, TX12, 37)) zMO_0 rfl) rfl rfl hl.1 rfl (lv_room (Nat.le_of_ble_eq_true rfl)) dX12_word_21 ⟨Nat.zero_le _, Nat.zero_le _⟩) (fun gn H locs hok hW => ?_)
      obtain ⟨hg, hI21, hf21, hq21⟩ := hok
      obtain ⟨S21, e21⟩ : ∃ q, zm_faults S9 1 (S9 0 6) = q := ⟨_, rfl⟩
      rw [e21] at hg hI21 hf21
      have t21_5 : S21 0 5 = S9 0 5 := hf21 0 5 (by omega)
      have t21_6 : S21 0 6 = S9 0 6 := hf21 0 6 (by omega)
      have t21_7 : S21 0 7 = S9 0 7 := hf21 0 7 (by omega)
      skip
      try rw [e21] at hq21
      rw [hg] at hW
      clear hg
      have hE : zm_word S = S21 := by unfold zm_word; exact zlet_e e1 (zif_f c_4 (zlet_e e9 (zif_t c_12 (zlet_e e21 rfl))))
      have hFr : ∀ kk ii : Nat, ¬ (kk = 0 ∧ ii = 6) ∧ ¬ (kk = 0 ∧ ii = 7) ∧ ¬ (kk = 0 ∧ ii = 8) ∧ ¬ (kk = 0 ∧ ii = 9) → S21 kk ii = S kk ii := fun kk ii hk => ((hf21 kk ii (by omega))).trans (hf9 kk ii (by omega))
      rw [← hQ]
      exact z_vret CX hW (by rw [hE]; exact ⟨rfl, hI21, hFr, (show (S 0 6 ≤ S21 0 6 ∧ (S 0 6 ≤ S 0 5 → S21 0 6 ≤ S 0 5)) ∧ (S21 0 8 = 0 → S 0 8 = 0 ∧ S21 0 7 ≤ S21 0 6 ∧ S 0 6 ≤ S21 0 7) ∧ (S 0 8 ≠ 0 → S21 0 8 = S 0 8) ∧ (S21 0 8 = 0 → (∀ k : Nat, S21 0 7 ≤ k → (k : Int) < S21 0 6 → 97 ≤ S 1 k ∧ S 1 k ≤ 122)) from by (refine ⟨by omega, by omega, by omega, ?_⟩; first | exact fun h => absurd h (by omega) | exact fun _ => hv33.2.2.2))⟩) dX12_word_24
  ·
    have hE : zm_word S = S := by unfold zm_word; exact zlet_e e1 (zif_t c_4 rfl)
    have hFr : ∀ kk ii : Nat, ¬ (kk = 0 ∧ ii = 6) ∧ ¬ (kk = 0 ∧ ii = 7) ∧ ¬ (kk = 0 ∧ ii = 8) ∧ ¬ (kk = 0 ∧ ii = 9) → S kk ii = S kk ii := fun kk ii hk => rfl
    rw [← hQ]
    exact z_vret CX hW (by rw [hE]; exact ⟨rfl, hI, hFr, (show (S 0 6 ≤ S 0 6 ∧ (S 0 6 ≤ S 0 5 → S 0 6 ≤ S 0 5)) ∧ (S 0 8 = 0 → S 0 8 = 0 ∧ S 0 7 ≤ S 0 6 ∧ S 0 6 ≤ S 0 7) ∧ (S 0 8 ≠ 0 → S 0 8 = S 0 8) ∧ (S 0 8 = 0 → (∀ k : Nat, S 0 7 ≤ k → (k : Int) < S 0 6 → 97 ≤ S 1 k ∧ S 1 k ≤ 122)) from by (refine ⟨by omega, by omega, by omega, ?_⟩; first | exact fun h => absurd h (by omega) | exact fun _ => hv33.2.2.2))⟩) dX12_word_7
end ZMf
