section ZMp
def zm_isAsked (S : zS2) (a : Int) (b : Int) (pt : Int) : Int := zlet (zm_areCurves S a b) (fun z3 => (if z3 = 0 then 0 else zlet (zm_isPoint S pt) (fun z11 => (if z11 = 0 then 0 else 1))))
set_option maxRecDepth 100000 in
set_option maxHeartbeats 4000000 in
theorem zk_isAsked (l : Launch) {D : va_G} {cI cJ cZ cP cS cM : ClassId} {L : List Nat} {sz : Nat} {f : Nat → va_E} (o : Nat) (S : zS2) (a : Int) (b : Int) (pt : Int) (hI : mI S) (ha : -2147483648 ≤ a ∧ a ≤ 2147483647) (hb : -2147483648 ≤ b ∧ b ≤ 2147483647) (hpt : -2147483648 ≤ pt ∧ pt ≤ 2147483647) : zMi l yX12_isAsked wsX12_isAsked 3 65 D (zT cI cJ cZ cP cS cM) L sz (zMO cI cJ o S f) [.ref o, .int (zI a), .int (zI b), .int (zI pt)] (fun zv gv => zv = zm_isAsked S a b pt ∧ gv = zMO cI cJ o S f ∧ 0 ≤ zv ∧ zv ≤ 1 ∧ (zv ≠ 0 → 0 ≤ a ∧ a < S 0 13 ∧ a ≤ 5 ∧ 0 ≤ b ∧ b < S 0 13 ∧ b ≤ 5 ∧ 0 ≤ pt ∧ pt ≤ 992 ∧ pt < S 0 10 * S 0 10 + S 0 10 + 1)) := by
  refine zWalk.met (nL := 4) (ret := (some .boolean)) (cc := cX12_isAsked) (by decide) rfl (Nat.le_of_ble_eq_true rfl) ?_
  intro pg en st mi ag bl mt cd ls CX hW hl
  have CX : zC pg st mi ag mt cd cX12_isAsked 4 (some .boolean) RX12 wsX12_isAsked := CX
  generalize hQ : MQ bl _ ag st 0 0 _ = Q
  have hX0 := CX.1
  have hB0 := CX.2.1
  have hl : lv_has ls 4 [(0, .ref o), (1, .int (zI a)), (2, .int (zI b)), (3, .int (zI pt))] := hl
  obtain ⟨H, eH⟩ : ∃ H, H = st.heap := ⟨_, rfl⟩
  obtain ⟨locs, eL⟩ : ∃ L : List Loc, L = [] := ⟨_, rfl⟩
  have hW : zW D (zT cI cJ cZ cP cS cM) L (zQ L sz) st (zMO cI cJ o S f) st.heap H locs := by rw [eH, eL]; exact hW
  suffices hgo : W pg l en ({ frames := 3, cells := 0, slots := 0, locals := 65 } : Room) st mi ag bl mt cd H locs 0 0 Q (F0 mi 0 ls []) by rw [eH, eL] at hgo; exact hgo
  clear eH eL
  have hpb := hI.s10
  refine lv_aload_n hX0 hB0 dX12_isAsked_0 rfl (lv_at hl 0 rfl) ?_
  refine lv_iload_n hX0 hB0 dX12_isAsked_1 rfl (lv_at hl 1 rfl) ?_
  refine lv_iload_n hX0 hB0 dX12_isAsked_2 rfl (lv_at hl 2 rfl) ?_
  refine z_calli hW (va_runV (C := RX12) (As := [.int (zI a), .int (zI b)]) (rest := []) CX.fix (zk_areCurves l o S a b hI (by constructor <;> omega) (by constructor <;> omega)) (cwV 2 CX.fix.2.2.2.2 gX12_isAsked_X12_areCurves rfl rfl rfl (by decide +kernel) ⟨Nat.le_of_ble_eq_true rfl, Nat.le_of_ble_eq_true rfl⟩) (z_preV CX hW (r := (RX12, TX12, 37)) zMO_0 rfl) rfl rfl hl.1 rfl (lv_room (Nat.le_of_ble_eq_true rfl)) dX12_isAsked_3 ⟨Nat.zero_le _, Nat.zero_le _⟩) (fun z3 gn H locs hok hW => ?_)
  obtain ⟨hz3, hg, hq3⟩ := hok
  rw [hg] at hW
  clear hg
  have e3 : zm_areCurves S a b = z3 := hz3.symm
  clear hz3
  refine z_if_eq (tgt := 21) CX dX12_isAsked_6 (by decide) (by constructor <;> omega) (fun c_6 => ?_) (fun c_6 => ?_)
  ·
    refine lv_iconst (v := zI 0) hX0 hB0 dX12_isAsked_21 rfl ?_
    have hE : zm_isAsked S a b pt = 0 := by unfold zm_isAsked; exact zlet_e e3 (zif_t c_6 rfl)
    rw [← hQ]
    exact z_iret (z := 0) CX hW (by rw [hE]; exact ⟨rfl, rfl, (show 0 ≤ (0 : Int) ∧ (0 : Int) ≤ 1 ∧ ((0 : Int) ≠ 0 → 0 ≤ a ∧ a < S 0 13 ∧ a ≤ 5 ∧ 0 ≤ b ∧ b < S 0 13 ∧ b ≤ 5 ∧ 0 ≤ pt ∧ pt ≤ 992 ∧ pt < S 0 10 * S 0 10 + S 0 10 + 1) from by omega)⟩) rfl dX12_isAsked_22
  ·
    refine lv_aload_n hX0 hB0 dX12_isAsked_9 rfl (lv_at hl 0 rfl) ?_
    refine lv_iload_n hX0 hB0 dX12_isAsked_10 rfl (lv_at hl 3 rfl) ?_
    refine z_calli hW (va_runV (C := RX12) (As := [.int (zI pt)]) (rest := []) CX.fix (zk_isPoint l o S pt hI (by constructor <;> omega)) (cwV 1 CX.fix.2.2.2.2 gX12_isAsked_X12_isPoint rfl rfl rfl (by decide +kernel) ⟨Nat.le_of_ble_eq_true rfl, Nat.le_of_ble_eq_true rfl⟩) (z_preV CX hW (r := (RX12, TX12, 37)) zMO_0 rfl) rfl rfl hl.1 rfl (lv_room (Nat.le_of_ble_eq_true rfl)) dX12_isAsked_11 ⟨Nat.zero_le _, Nat.zero_le _⟩) (fun z11 gn H locs hok hW => ?_)
    obtain ⟨hz11, hg, hq11⟩ := hok
    rw [hg] at hW
    clear hg
    have e11 : zm_isPoint S pt = z11 := hz11.symm
    clear hz11
    refine z_if_eq (tgt := 21) CX dX12_isAsked_14 (by decide) (by constructor <;> omega) (fun c_14 => ?_) (fun c_14 => ?_)
    ·
      refine lv_iconst (v := zI 0) hX0 hB0 dX12_isAsked_21 rfl ?_
      have hE : zm_isAsked S a b pt = 0 := by unfold zm_isAsked; exact zlet_e e3 (zif_f c_6 (zlet_e e11 (zif_t c_14 rfl)))
      rw [← hQ]
      exact z_iret (z := 0) CX hW (by rw [hE]; exact ⟨rfl, rfl, (show 0 ≤ (0 : Int) ∧ (0 : Int) ≤ 1 ∧ ((0 : Int) ≠ 0 → 0 ≤ a ∧ a < S 0 13 ∧ a ≤ 5 ∧ 0 ≤ b ∧ b < S 0 13 ∧ b ≤ 5 ∧ 0 ≤ pt ∧ pt ≤ 992 ∧ pt < S 0 10 * S 0 10 + S 0 10 + 1) from by omega)⟩) rfl dX12_isAsked_22
    ·
      refine lv_iconst (v := zI 1) hX0 hB0 dX12_isAsked_17 rfl ?_
      refine lv_goto (tgt := 22) hX0 hB0 dX12_isAsked_18 (by decide) ?_
      have hE : zm_isAsked S a b pt = 1 := by unfold zm_isAsked; exact zlet_e e3 (zif_f c_6 (zlet_e e11 (zif_f c_14 rfl)))
      rw [← hQ]
      exact z_iret (z := 1) CX hW (by rw [hE]; exact ⟨rfl, rfl, (show 0 ≤ (1 : Int) ∧ (1 : Int) ≤ 1 ∧ ((1 : Int) ≠ 0 → 0 ≤ a ∧ a < S 0 13 ∧ a ≤ 5 ∧ 0 ≤ b ∧ b < S 0 13 ∧ b ≤ 5 ∧ 0 ≤ pt ∧ pt ≤ 992 ∧ pt < S 0 10 * S 0 10 + S 0 10 + 1) from by omega)⟩) rfl dX12_isAsked_22
def zm_common (S : zS2) (a : Int) (b : Int) : Int × zS2 := zlet (zm_areCurves S a b) (fun z3 => (if z3 = 0 then (-1, S) else zlet (zm_laysCommon S a b) (fun S14 => zlet (zm_degreeOf S14 143) (fun z21 => (z21, S14)))))
set_option maxRecDepth 100000 in
set_option maxHeartbeats 4000000 in
theorem zk_common (l : Launch) {D : va_G} {cI cJ cZ cP cS cM : ClassId} {L : List Nat} {sz : Nat} {f : Nat → va_E} (o : Nat) (S : zS2) (a : Int) (b : Int) (hI : mI S) (ha : -2147483648 ≤ a ∧ a ≤ 2147483647) (hb : -2147483648 ≤ b ∧ b ≤ 2147483647) (hH : zqH S) : zMi l yX12_common wsX12_common 6 154 D (zT cI cJ cZ cP cS cM) L sz (zMO cI cJ o S f) [.ref o, .int (zI a), .int (zI b)] (fun zv gv => zv = (zm_common S a b).1 ∧ gv = zMO cI cJ o (zm_common S a b).2 f ∧ mI (zm_common S a b).2 ∧ (∀ kk ii : Nat, ¬ kk = 13 ∧ ¬ kk = 14 ∧ ¬ kk = 15 ∧ ¬ (kk = 3 ∧ 3500 ≤ (ii : Int)) → (zm_common S a b).2 kk ii = S kk ii) ∧ -1 ≤ zv ∧ zv ≤ 4) := by
  refine zWalk.met (nL := 3) (ret := (some .int)) (cc := cX12_common) (by decide) rfl (Nat.le_of_ble_eq_true rfl) ?_
  intro pg en st mi ag bl mt cd ls CX hW hl
  have CX : zC pg st mi ag mt cd cX12_common 3 (some .int) RX12 wsX12_common := CX
  generalize hQ : MQ bl _ ag st 0 0 _ = Q
  have hX0 := CX.1
  have hB0 := CX.2.1
  have hl : lv_has ls 3 [(0, .ref o), (1, .int (zI a)), (2, .int (zI b))] := hl
  obtain ⟨H, eH⟩ : ∃ H, H = st.heap := ⟨_, rfl⟩
  obtain ⟨locs, eL⟩ : ∃ L : List Loc, L = [] := ⟨_, rfl⟩
  have hW : zW D (zT cI cJ cZ cP cS cM) L (zQ L sz) st (zMO cI cJ o S f) st.heap H locs := by rw [eH, eL]; exact hW
  suffices hgo : W pg l en ({ frames := 6, cells := 0, slots := 0, locals := 154 } : Room) st mi ag bl mt cd H locs 0 0 Q (F0 mi 0 ls []) by rw [eH, eL] at hgo; exact hgo
  clear eH eL
  have hpb := hI.s10
  refine lv_aload_n hX0 hB0 dX12_common_0 rfl (lv_at hl 0 rfl) ?_
  refine lv_iload_n hX0 hB0 dX12_common_1 rfl (lv_at hl 1 rfl) ?_
  refine lv_iload_n hX0 hB0 dX12_common_2 rfl (lv_at hl 2 rfl) ?_
  refine z_calli hW (va_runV (C := RX12) (As := [.int (zI a), .int (zI b)]) (rest := []) CX.fix (zk_areCurves l o S a b hI (by constructor <;> omega) (by constructor <;> omega)) (cwV 2 CX.fix.2.2.2.2 gX12_common_X12_areCurves rfl rfl rfl (by decide +kernel) ⟨Nat.le_of_ble_eq_true rfl, Nat.le_of_ble_eq_true rfl⟩) (z_preV CX hW (r := (RX12, TX12, 37)) zMO_0 rfl) rfl rfl hl.1 rfl (lv_room (Nat.le_of_ble_eq_true rfl)) dX12_common_3 ⟨Nat.zero_le _, Nat.zero_le _⟩) (fun z3 gn H locs hok hW => ?_)
  obtain ⟨hz3, hg, hq3⟩ := hok
  rw [hg] at hW
  clear hg
  have e3 : zm_areCurves S a b = z3 := hz3.symm
  clear hz3
  refine z_if_ne (tgt := 11) CX dX12_common_6 (by decide) (by constructor <;> omega) (fun c_6 => ?_) (fun c_6 => ?_)
  ·
    refine lv_aload_n hX0 hB0 dX12_common_11 rfl (lv_at hl 0 rfl) ?_
    refine lv_iload_n hX0 hB0 dX12_common_12 rfl (lv_at hl 1 rfl) ?_
    refine lv_iload_n hX0 hB0 dX12_common_13 rfl (lv_at hl 2 rfl) ?_
    refine z_callv hW (va_runV (C := RX12) (As := [.int (zI a), .int (zI b)]) (rest := []) CX.fix (zk_laysCommon l o S a b hI (by constructor <;> omega) (by constructor <;> omega) ⟨zqH.deg hH hI (by omega) (by omega), zqH.deg hH hI (by omega) (by omega)⟩) (cwV 2 CX.fix.2.2.2.2 gX12_common_X12_laysCommon rfl rfl rfl (by decide +kernel) ⟨Nat.le_of_ble_eq_true rfl, Nat.le_of_ble_eq_true rfl⟩) (z_preV CX hW (r := (RX12, TX12, 37)) zMO_0 rfl) rfl rfl hl.1 rfl (lv_room (Nat.le_of_ble_eq_true rfl)) dX12_common_14 ⟨Nat.zero_le _, Nat.zero_le _⟩) (fun gn H locs hok hW => ?_)
    obtain ⟨hg, hI14, hf14, hq14⟩ := hok
    obtain ⟨S14, e14⟩ : ∃ q, zm_laysCommon S a b = q := ⟨_, rfl⟩
    rw [e14] at hg hI14 hf14
    skip
    try rw [e14] at hq14
    rw [hg] at hW
    clear hg
    refine lv_aload_n hX0 hB0 dX12_common_17 rfl (lv_at hl 0 rfl) ?_
    refine lv_sipush (v := zI 143) hX0 hB0 dX12_common_18 (by decide) ?_
    refine z_calli hW (va_runV (C := RX12) (As := [.int (zI 143)]) (rest := []) CX.fix (zk_degreeOf l o S14 143 hI14 (by constructor <;> omega)) (cwV 1 CX.fix.2.2.2.2 gX12_common_X12_degreeOf rfl rfl rfl (by decide +kernel) ⟨Nat.le_of_ble_eq_true rfl, Nat.le_of_ble_eq_true rfl⟩) (z_preV CX hW (r := (RX12, TX12, 37)) zMO_0 rfl) rfl rfl hl.1 rfl (lv_room (Nat.le_of_ble_eq_true rfl)) dX12_common_21 ⟨Nat.zero_le _, Nat.zero_le _⟩) (fun z21 gn H locs hok hW => ?_)
    obtain ⟨hz21, hg, hq21⟩ := hok
    rw [hg] at hW
    clear hg
    have e21 : zm_degreeOf S14 143 = z21 := hz21.symm
    clear hz21
    have hE : zm_common S a b = (z21, S14) := by unfold zm_common; exact zlet_e e3 (zif_f c_6 (zlet_e e14 (zlet_e e21 rfl)))
    have hFr : ∀ kk ii : Nat, ¬ kk = 13 ∧ ¬ kk = 14 ∧ ¬ kk = 15 ∧ ¬ (kk = 3 ∧ 3500 ≤ (ii : Int)) → S14 kk ii = S kk ii := fun kk ii hk => (hf14 kk ii (by omega))
    rw [← hQ]
    exact z_iret (z := z21) CX hW (by rw [hE]; exact ⟨rfl, rfl, hI14, hFr, (show -1 ≤ z21 ∧ z21 ≤ 4 from by omega)⟩) rfl dX12_common_24
  ·
    refine lv_iconst (v := zI (-1)) hX0 hB0 dX12_common_9 rfl ?_
    have hE : zm_common S a b = (-1, S) := by unfold zm_common; exact zlet_e e3 (zif_t c_6 rfl)
    have hFr : ∀ kk ii : Nat, ¬ kk = 13 ∧ ¬ kk = 14 ∧ ¬ kk = 15 ∧ ¬ (kk = 3 ∧ 3500 ≤ (ii : Int)) → S kk ii = S kk ii := fun kk ii hk => rfl
    rw [← hQ]
    exact z_iret (z := -1) CX hW (by rw [hE]; exact ⟨rfl, rfl, hI, hFr, (show -1 ≤ (-1 : Int) ∧ (-1 : Int) ≤ 4 from by omega)⟩) rfl dX12_common_10
def zm_commonTerm (S : zS2) (a : Int) (b : Int) (i : Int) (j : Int) : Int × zS2 := zlet (zm_areCurves S a b) (fun z3 => (if z3 = 0 then (-1, S) else zlet (zm_isTerm i j) (fun z12 => (if z12 = 0 then (-1, S) else zlet (zm_laysCommon S a b) (fun S23 => zlet (zm_cell S23 143 i j) (fun z33 => (z33, S23)))))))
set_option maxRecDepth 100000 in
set_option maxHeartbeats 4000000 in
theorem zk_commonTerm (l : Launch) {D : va_G} {cI cJ cZ cP cS cM : ClassId} {L : List Nat} {sz : Nat} {f : Nat → va_E} (o : Nat) (S : zS2) (a : Int) (b : Int) (i : Int) (j : Int) (hI : mI S) (ha : -2147483648 ≤ a ∧ a ≤ 2147483647) (hb : -2147483648 ≤ b ∧ b ≤ 2147483647) (hi : -2147483648 ≤ i ∧ i ≤ 2147483647) (hj : -2147483648 ≤ j ∧ j ≤ 2147483647) (hH : zqH S) : zMi l yX12_commonTerm wsX12_commonTerm 6 154 D (zT cI cJ cZ cP cS cM) L sz (zMO cI cJ o S f) [.ref o, .int (zI a), .int (zI b), .int (zI i), .int (zI j)] (fun zv gv => zv = (zm_commonTerm S a b i j).1 ∧ gv = zMO cI cJ o (zm_commonTerm S a b i j).2 f ∧ mI (zm_commonTerm S a b i j).2 ∧ (∀ kk ii : Nat, ¬ kk = 13 ∧ ¬ kk = 14 ∧ ¬ kk = 15 ∧ ¬ (kk = 3 ∧ 3500 ≤ (ii : Int)) → (zm_commonTerm S a b i j).2 kk ii = S kk ii) ∧ -1 ≤ zv ∧ zv ≤ 30) := by
  refine zWalk.met (nL := 5) (ret := (some .int)) (cc := cX12_commonTerm) (by decide) rfl (Nat.le_of_ble_eq_true rfl) ?_
  intro pg en st mi ag bl mt cd ls CX hW hl
  have CX : zC pg st mi ag mt cd cX12_commonTerm 5 (some .int) RX12 wsX12_commonTerm := CX
  generalize hQ : MQ bl _ ag st 0 0 _ = Q
  have hX0 := CX.1
  have hB0 := CX.2.1
  have hl : lv_has ls 5 [(0, .ref o), (1, .int (zI a)), (2, .int (zI b)), (3, .int (zI i)), (4, .int (zI j))] := hl
  obtain ⟨H, eH⟩ : ∃ H, H = st.heap := ⟨_, rfl⟩
  obtain ⟨locs, eL⟩ : ∃ L : List Loc, L = [] := ⟨_, rfl⟩
  have hW : zW D (zT cI cJ cZ cP cS cM) L (zQ L sz) st (zMO cI cJ o S f) st.heap H locs := by rw [eH, eL]; exact hW
  suffices hgo : W pg l en ({ frames := 6, cells := 0, slots := 0, locals := 154 } : Room) st mi ag bl mt cd H locs 0 0 Q (F0 mi 0 ls []) by rw [eH, eL] at hgo; exact hgo
  clear eH eL
  have hpb := hI.s10
  refine lv_aload_n hX0 hB0 dX12_commonTerm_0 rfl (lv_at hl 0 rfl) ?_
  refine lv_iload_n hX0 hB0 dX12_commonTerm_1 rfl (lv_at hl 1 rfl) ?_
  refine lv_iload_n hX0 hB0 dX12_commonTerm_2 rfl (lv_at hl 2 rfl) ?_
  refine z_calli hW (va_runV (C := RX12) (As := [.int (zI a), .int (zI b)]) (rest := []) CX.fix (zk_areCurves l o S a b hI (by constructor <;> omega) (by constructor <;> omega)) (cwV 2 CX.fix.2.2.2.2 gX12_commonTerm_X12_areCurves rfl rfl rfl (by decide +kernel) ⟨Nat.le_of_ble_eq_true rfl, Nat.le_of_ble_eq_true rfl⟩) (z_preV CX hW (r := (RX12, TX12, 37)) zMO_0 rfl) rfl rfl hl.1 rfl (lv_room (Nat.le_of_ble_eq_true rfl)) dX12_commonTerm_3 ⟨Nat.zero_le _, Nat.zero_le _⟩) (fun z3 gn H locs hok hW => ?_)
  obtain ⟨hz3, hg, hq3⟩ := hok
  rw [hg] at hW
  clear hg
  have e3 : zm_areCurves S a b = z3 := hz3.symm
  clear hz3
  refine z_if_eq (tgt := 18) CX dX12_commonTerm_6 (by decide) (by constructor <;> omega) (fun c_6 => ?_) (fun c_6 => ?_)
  ·
    refine lv_iconst (v := zI (-1)) hX0 hB0 dX12_commonTerm_18 rfl ?_
    have hE : zm_commonTerm S a b i j = (-1, S) := by unfold zm_commonTerm; exact zlet_e e3 (zif_t c_6 rfl)
    have hFr : ∀ kk ii : Nat, ¬ kk = 13 ∧ ¬ kk = 14 ∧ ¬ kk = 15 ∧ ¬ (kk = 3 ∧ 3500 ≤ (ii : Int)) → S kk ii = S kk ii := fun kk ii hk => rfl
    rw [← hQ]
    exact z_iret (z := -1) CX hW (by rw [hE]; exact ⟨rfl, rfl, hI, hFr, (show -1 ≤ (-1 : Int) ∧ (-1 : Int) ≤ 30 from by omega)⟩) rfl dX12_commonTerm_19
  ·
    refine lv_iload_n hX0 hB0 dX12_commonTerm_9 rfl (lv_at hl 3 rfl) ?_
    refine lv_iload hX0 hB0 dX12_commonTerm_10 (lv_at hl 4 rfl) ?_
    refine z_calli hW (va_runS (As := [.int (zI i), .int (zI j)]) (rest := []) CX.fix (zk_isTerm l (f := zMO cI cJ o S f) i j (by constructor <;> omega) (by constructor <;> omega)) (va_cwS 2 CX.fix.2.2.2.2 gX12_commonTerm_X12_isTerm rfl rfl rfl (by decide +kernel) ⟨Nat.le_of_ble_eq_true rfl, Nat.le_of_ble_eq_true rfl⟩) (z_preS CX hW) rfl rfl hl.1 rfl (lv_room (Nat.le_of_ble_eq_true rfl)) dX12_commonTerm_12 ⟨Nat.zero_le _, Nat.zero_le _⟩) (fun z12 gn H locs hok hW => ?_)
    obtain ⟨hz12, hg, hq12⟩ := hok
    rw [hg] at hW
    clear hg
    have e12 : zm_isTerm i j = z12 := hz12.symm
    clear hz12
    refine z_if_ne (tgt := 20) CX dX12_commonTerm_15 (by decide) (by constructor <;> omega) (fun c_15 => ?_) (fun c_15 => ?_)
    ·
      refine lv_aload_n hX0 hB0 dX12_commonTerm_20 rfl (lv_at hl 0 rfl) ?_
      refine lv_iload_n hX0 hB0 dX12_commonTerm_21 rfl (lv_at hl 1 rfl) ?_
      refine lv_iload_n hX0 hB0 dX12_commonTerm_22 rfl (lv_at hl 2 rfl) ?_
      refine z_callv hW (va_runV (C := RX12) (As := [.int (zI a), .int (zI b)]) (rest := []) CX.fix (zk_laysCommon l o S a b hI (by constructor <;> omega) (by constructor <;> omega) ⟨zqH.deg hH hI (by omega) (by omega), zqH.deg hH hI (by omega) (by omega)⟩) (cwV 2 CX.fix.2.2.2.2 gX12_commonTerm_X12_laysCommon rfl rfl rfl (by decide +kernel) ⟨Nat.le_of_ble_eq_true rfl, Nat.le_of_ble_eq_true rfl⟩) (z_preV CX hW (r := (RX12, TX12, 37)) zMO_0 rfl) rfl rfl hl.1 rfl (lv_room (Nat.le_of_ble_eq_true rfl)) dX12_commonTerm_23 ⟨Nat.zero_le _, Nat.zero_le _⟩) (fun gn H locs hok hW => ?_)
      obtain ⟨hg, hI23, hf23, hq23⟩ := hok
      obtain ⟨S23, e23⟩ : ∃ q, zm_laysCommon S a b = q := ⟨_, rfl⟩
      rw [e23] at hg hI23 hf23
      skip
      try rw [e23] at hq23
      rw [hg] at hW
      clear hg
      refine lv_aload_n hX0 hB0 dX12_commonTerm_26 rfl (lv_at hl 0 rfl) ?_
      refine lv_sipush (v := zI 143) hX0 hB0 dX12_commonTerm_27 (by decide) ?_
      refine lv_iload_n hX0 hB0 dX12_commonTerm_30 rfl (lv_at hl 3 rfl) ?_
      refine lv_iload hX0 hB0 dX12_commonTerm_31 (lv_at hl 4 rfl) ?_
      refine z_calli hW (va_runV (C := RX12) (As := [.int (zI 143), .int (zI i), .int (zI j)]) (rest := []) CX.fix (zk_cell l o S23 143 i j hI23 (by constructor <;> omega) (by constructor <;> omega) (by constructor <;> omega)) (cwV 3 CX.fix.2.2.2.2 gX12_commonTerm_X12_cell rfl rfl rfl (by decide +kernel) ⟨Nat.le_of_ble_eq_true rfl, Nat.le_of_ble_eq_true rfl⟩) (z_preV CX hW (r := (RX12, TX12, 37)) zMO_0 rfl) rfl rfl hl.1 rfl (lv_room (Nat.le_of_ble_eq_true rfl)) dX12_commonTerm_33 ⟨Nat.zero_le _, Nat.zero_le _⟩) (fun z33 gn H locs hok hW => ?_)
      obtain ⟨hz33, hg, hq33⟩ := hok
      rw [hg] at hW
      clear hg
      have e33 : zm_cell S23 143 i j = z33 := hz33.symm
      clear hz33
      have hE : zm_commonTerm S a b i j = (z33, S23) := by unfold zm_commonTerm; exact zlet_e e3 (zif_f c_6 (zlet_e e12 (zif_f c_15 (zlet_e e23 (zlet_e e33 rfl)))))
      have hFr : ∀ kk ii : Nat, ¬ kk = 13 ∧ ¬ kk = 14 ∧ ¬ kk = 15 ∧ ¬ (kk = 3 ∧ 3500 ≤ (ii : Int)) → S23 kk ii = S kk ii := fun kk ii hk => (hf23 kk ii (by omega))
      rw [← hQ]
      exact z_iret (z := z33) CX hW (by rw [hE]; exact ⟨rfl, rfl, hI23, hFr, (show -1 ≤ z33 ∧ z33 ≤ 30 from by omega)⟩) rfl dX12_commonTerm_36
    ·
      refine lv_iconst (v := zI (-1)) hX0 hB0 dX12_commonTerm_18 rfl ?_
      have hE : zm_commonTerm S a b i j = (-1, S) := by unfold zm_commonTerm; exact zlet_e e3 (zif_f c_6 (zlet_e e12 (zif_t c_15 rfl)))
      have hFr : ∀ kk ii : Nat, ¬ kk = 13 ∧ ¬ kk = 14 ∧ ¬ kk = 15 ∧ ¬ (kk = 3 ∧ 3500 ≤ (ii : Int)) → S kk ii = S kk ii := fun kk ii hk => rfl
      rw [← hQ]
      exact z_iret (z := -1) CX hW (by rw [hE]; exact ⟨rfl, rfl, hI, hFr, (show -1 ≤ (-1 : Int) ∧ (-1 : Int) ≤ 30 from by omega)⟩) rfl dX12_commonTerm_19
def zm_times (S : zS2) (a : Int) (b : Int) (pt : Int) : Int × zS2 := zlet (zm_isAsked S a b pt) (fun z4 => (if z4 = 0 then (-1, S) else zlet (zm_timesAt S a b pt) (fun q14 => (fun (z14 : Int) (S14 : zS2) => (z14, S14)) q14.1 q14.2)))
set_option maxRecDepth 100000 in
set_option maxHeartbeats 4000000 in
theorem zk_times (l : Launch) {D : va_G} {cI cJ cZ cP cS cM : ClassId} {L : List Nat} {sz : Nat} {f : Nat → va_E} (o : Nat) (S : zS2) (a : Int) (b : Int) (pt : Int) (hI : mI S) (ha : -2147483648 ≤ a ∧ a ≤ 2147483647) (hb : -2147483648 ≤ b ∧ b ≤ 2147483647) (hpt : -2147483648 ≤ pt ∧ pt ≤ 2147483647) (hH : zqH S) : zMi l yX12_times wsX12_times 7 180 D (zT cI cJ cZ cP cS cM) L sz (zMO cI cJ o S f) [.ref o, .int (zI a), .int (zI b), .int (zI pt)] (fun zv gv => zv = (zm_times S a b pt).1 ∧ gv = zMO cI cJ o (zm_times S a b pt).2 f ∧ mI (zm_times S a b pt).2 ∧ (∀ kk ii : Nat, ¬ (kk = 0 ∧ ii = 33) ∧ ¬ kk = 13 ∧ ¬ kk = 14 ∧ ¬ kk = 15 ∧ ¬ kk = 16 ∧ ¬ kk = 17 ∧ ¬ kk = 18 ∧ ¬ kk = 19 ∧ ¬ (kk = 3 ∧ 3500 ≤ (ii : Int)) → (zm_times S a b pt).2 kk ii = S kk ii) ∧ -4000 ≤ zv ∧ zv ≤ 64000) := by
  refine zWalk.met (nL := 4) (ret := (some .int)) (cc := cX12_times) (by decide) rfl (Nat.le_of_ble_eq_true rfl) ?_
  intro pg en st mi ag bl mt cd ls CX hW hl
  have CX : zC pg st mi ag mt cd cX12_times 4 (some .int) RX12 wsX12_times := CX
  generalize hQ : MQ bl _ ag st 0 0 _ = Q
  have hX0 := CX.1
  have hB0 := CX.2.1
  have hl : lv_has ls 4 [(0, .ref o), (1, .int (zI a)), (2, .int (zI b)), (3, .int (zI pt))] := hl
  obtain ⟨H, eH⟩ : ∃ H, H = st.heap := ⟨_, rfl⟩
  obtain ⟨locs, eL⟩ : ∃ L : List Loc, L = [] := ⟨_, rfl⟩
  have hW : zW D (zT cI cJ cZ cP cS cM) L (zQ L sz) st (zMO cI cJ o S f) st.heap H locs := by rw [eH, eL]; exact hW
  suffices hgo : W pg l en ({ frames := 7, cells := 0, slots := 0, locals := 180 } : Room) st mi ag bl mt cd H locs 0 0 Q (F0 mi 0 ls []) by rw [eH, eL] at hgo; exact hgo
  clear eH eL
  have hpb := hI.s10
  refine lv_aload_n hX0 hB0 dX12_times_0 rfl (lv_at hl 0 rfl) ?_
  refine lv_iload_n hX0 hB0 dX12_times_1 rfl (lv_at hl 1 rfl) ?_
  refine lv_iload_n hX0 hB0 dX12_times_2 rfl (lv_at hl 2 rfl) ?_
  refine lv_iload_n hX0 hB0 dX12_times_3 rfl (lv_at hl 3 rfl) ?_
  refine z_calli hW (va_runV (C := RX12) (As := [.int (zI a), .int (zI b), .int (zI pt)]) (rest := []) CX.fix (zk_isAsked l o S a b pt hI (by constructor <;> omega) (by constructor <;> omega) (by constructor <;> omega)) (cwV 3 CX.fix.2.2.2.2 gX12_times_X12_isAsked rfl rfl rfl (by decide +kernel) ⟨Nat.le_of_ble_eq_true rfl, Nat.le_of_ble_eq_true rfl⟩) (z_preV CX hW (r := (RX12, TX12, 37)) zMO_0 rfl) rfl rfl hl.1 rfl (lv_room (Nat.le_of_ble_eq_true rfl)) dX12_times_4 ⟨Nat.zero_le _, Nat.zero_le _⟩) (fun z4 gn H locs hok hW => ?_)
  obtain ⟨hz4, hg, hq4⟩ := hok
  rw [hg] at hW
  clear hg
  have e4 : zm_isAsked S a b pt = z4 := hz4.symm
  clear hz4
  refine z_if_eq (tgt := 20) CX dX12_times_7 (by decide) (by constructor <;> omega) (fun c_7 => ?_) (fun c_7 => ?_)
  ·
    refine lv_iconst (v := zI (-1)) hX0 hB0 dX12_times_20 rfl ?_
    have hE : zm_times S a b pt = (-1, S) := by unfold zm_times; exact zlet_e e4 (zif_t c_7 rfl)
    have hFr : ∀ kk ii : Nat, ¬ (kk = 0 ∧ ii = 33) ∧ ¬ kk = 13 ∧ ¬ kk = 14 ∧ ¬ kk = 15 ∧ ¬ kk = 16 ∧ ¬ kk = 17 ∧ ¬ kk = 18 ∧ ¬ kk = 19 ∧ ¬ (kk = 3 ∧ 3500 ≤ (ii : Int)) → S kk ii = S kk ii := fun kk ii hk => rfl
    rw [← hQ]
    exact z_iret (z := -1) CX hW (by rw [hE]; exact ⟨rfl, rfl, hI, hFr, (show -4000 ≤ (-1 : Int) ∧ (-1 : Int) ≤ 64000 from by omega)⟩) rfl dX12_times_21
  ·
    refine lv_aload_n hX0 hB0 dX12_times_10 rfl (lv_at hl 0 rfl) ?_
    refine lv_iload_n hX0 hB0 dX12_times_11 rfl (lv_at hl 1 rfl) ?_
    refine lv_iload_n hX0 hB0 dX12_times_12 rfl (lv_at hl 2 rfl) ?_
    refine lv_iload_n hX0 hB0 dX12_times_13 rfl (lv_at hl 3 rfl) ?_
    refine z_calli hW (va_runV (C := RX12) (As := [.int (zI a), .int (zI b), .int (zI pt)]) (rest := []) CX.fix (zk_timesAt l o S a b pt hI (by constructor <;> omega) (by constructor <;> omega) (by constructor <;> omega) hH (by omega) (by omega)) (cwV 3 CX.fix.2.2.2.2 gX12_times_X12_timesAt rfl rfl rfl (by decide +kernel) ⟨Nat.le_of_ble_eq_true rfl, Nat.le_of_ble_eq_true rfl⟩) (z_preV CX hW (r := (RX12, TX12, 37)) zMO_0 rfl) rfl rfl hl.1 rfl (lv_room (Nat.le_of_ble_eq_true rfl)) dX12_times_14 ⟨Nat.zero_le _, Nat.zero_le _⟩) (fun z14 gn H locs hok hW => ?_)
    obtain ⟨hz14, hg, hI14, hf14, hq14⟩ := hok
    obtain ⟨S14, hS14⟩ : ∃ q, q = (zm_timesAt S a b pt).2 := ⟨_, rfl⟩
    rw [← hS14] at hg hI14 hf14
    skip
    try rw [← hS14] at hq14
    rw [hg] at hW
    clear hg
    have e14 : zm_timesAt S a b pt = (z14, S14) := Prod.ext hz14.symm hS14.symm
    clear hz14 hS14
    refine lv_goto (tgt := 21) hX0 hB0 dX12_times_17 (by decide) ?_
    have hE : zm_times S a b pt = (z14, S14) := by unfold zm_times; exact zlet_e e4 (zif_f c_7 (zlet_e e14 rfl))
    have hFr : ∀ kk ii : Nat, ¬ (kk = 0 ∧ ii = 33) ∧ ¬ kk = 13 ∧ ¬ kk = 14 ∧ ¬ kk = 15 ∧ ¬ kk = 16 ∧ ¬ kk = 17 ∧ ¬ kk = 18 ∧ ¬ kk = 19 ∧ ¬ (kk = 3 ∧ 3500 ≤ (ii : Int)) → S14 kk ii = S kk ii := fun kk ii hk => (hf14 kk ii (by omega))
    rw [← hQ]
    exact z_iret (z := z14) CX hW (by rw [hE]; exact ⟨rfl, rfl, hI14, hFr, (show -4000 ≤ z14 ∧ z14 ≤ 64000 from by omega)⟩) rfl dX12_times_21
def zm_rules (S : zS2) (a : Int) (b : Int) (pt : Int) (kind : Int) : Int × zS2 := zlet (zm_isAsked S a b pt) (fun z4 => (if z4 = 0 then (-1, S) else zlet (zm_isIn kind 0 3) (fun z14 => (if z14 = 0 then (-1, S) else zlet (zm_timesAt S a b pt) (fun q26 => (fun (z26 : Int) (S26 : zS2) => (if z26 = -2 then (-1, S26) else (S26 18 kind.toNat, S26))) q26.1 q26.2)))))
set_option maxRecDepth 100000 in
set_option maxHeartbeats 4000000 in
theorem zk_rules (l : Launch) {D : va_G} {cI cJ cZ cP cS cM : ClassId} {L : List Nat} {sz : Nat} {f : Nat → va_E} (o : Nat) (S : zS2) (a : Int) (b : Int) (pt : Int) (kind : Int) (hI : mI S) (ha : -2147483648 ≤ a ∧ a ≤ 2147483647) (hb : -2147483648 ≤ b ∧ b ≤ 2147483647) (hpt : -2147483648 ≤ pt ∧ pt ≤ 2147483647) (hkind : -2147483648 ≤ kind ∧ kind ≤ 2147483647) (hH : zqH S) : zMi l yX12_rules wsX12_rules 7 180 D (zT cI cJ cZ cP cS cM) L sz (zMO cI cJ o S f) [.ref o, .int (zI a), .int (zI b), .int (zI pt), .int (zI kind)] (fun zv gv => zv = (zm_rules S a b pt kind).1 ∧ gv = zMO cI cJ o (zm_rules S a b pt kind).2 f ∧ mI (zm_rules S a b pt kind).2 ∧ (∀ kk ii : Nat, ¬ (kk = 0 ∧ ii = 33) ∧ ¬ kk = 13 ∧ ¬ kk = 14 ∧ ¬ kk = 15 ∧ ¬ kk = 16 ∧ ¬ kk = 17 ∧ ¬ kk = 18 ∧ ¬ kk = 19 ∧ ¬ (kk = 3 ∧ 3500 ≤ (ii : Int)) → (zm_rules S a b pt kind).2 kk ii = S kk ii) ∧ True) := by
  refine zWalk.met (nL := 5) (ret := (some .int)) (cc := cX12_rules) (by decide) rfl (Nat.le_of_ble_eq_true rfl) ?_
  intro pg en st mi ag bl mt cd ls CX hW hl
  have CX : zC pg st mi ag mt cd cX12_rules 5 (some .int) RX12 wsX12_rules := CX
  generalize hQ : MQ bl _ ag st 0 0 _ = Q
  have hX0 := CX.1
  have hB0 := CX.2.1
  have hl : lv_has ls 5 [(0, .ref o), (1, .int (zI a)), (2, .int (zI b)), (3, .int (zI pt)), (4, .int (zI kind))] := hl
  obtain ⟨H, eH⟩ : ∃ H, H = st.heap := ⟨_, rfl⟩
  obtain ⟨locs, eL⟩ : ∃ L : List Loc, L = [] := ⟨_, rfl⟩
  have hW : zW D (zT cI cJ cZ cP cS cM) L (zQ L sz) st (zMO cI cJ o S f) st.heap H locs := by rw [eH, eL]; exact hW
  suffices hgo : W pg l en ({ frames := 7, cells := 0, slots := 0, locals := 180 } : Room) st mi ag bl mt cd H locs 0 0 Q (F0 mi 0 ls []) by rw [eH, eL] at hgo; exact hgo
  clear eH eL
  have hpb := hI.s10
  refine lv_aload_n hX0 hB0 dX12_rules_0 rfl (lv_at hl 0 rfl) ?_
  refine lv_iload_n hX0 hB0 dX12_rules_1 rfl (lv_at hl 1 rfl) ?_
  refine lv_iload_n hX0 hB0 dX12_rules_2 rfl (lv_at hl 2 rfl) ?_
  refine lv_iload_n hX0 hB0 dX12_rules_3 rfl (lv_at hl 3 rfl) ?_
  refine z_calli hW (va_runV (C := RX12) (As := [.int (zI a), .int (zI b), .int (zI pt)]) (rest := []) CX.fix (zk_isAsked l o S a b pt hI (by constructor <;> omega) (by constructor <;> omega) (by constructor <;> omega)) (cwV 3 CX.fix.2.2.2.2 gX12_rules_X12_isAsked rfl rfl rfl (by decide +kernel) ⟨Nat.le_of_ble_eq_true rfl, Nat.le_of_ble_eq_true rfl⟩) (z_preV CX hW (r := (RX12, TX12, 37)) zMO_0 rfl) rfl rfl hl.1 rfl (lv_room (Nat.le_of_ble_eq_true rfl)) dX12_rules_4 ⟨Nat.zero_le _, Nat.zero_le _⟩) (fun z4 gn H locs hok hW => ?_)
  obtain ⟨hz4, hg, hq4⟩ := hok
  rw [hg] at hW
  clear hg
  have e4 : zm_isAsked S a b pt = z4 := hz4.symm
  clear hz4
  refine z_if_eq (tgt := 20) CX dX12_rules_7 (by decide) (by constructor <;> omega) (fun c_7 => ?_) (fun c_7 => ?_)
  ·
    refine lv_iconst (v := zI (-1)) hX0 hB0 dX12_rules_20 rfl ?_
    have hE : zm_rules S a b pt kind = (-1, S) := by unfold zm_rules; exact zlet_e e4 (zif_t c_7 rfl)
    have hFr : ∀ kk ii : Nat, ¬ (kk = 0 ∧ ii = 33) ∧ ¬ kk = 13 ∧ ¬ kk = 14 ∧ ¬ kk = 15 ∧ ¬ kk = 16 ∧ ¬ kk = 17 ∧ ¬ kk = 18 ∧ ¬ kk = 19 ∧ ¬ (kk = 3 ∧ 3500 ≤ (ii : Int)) → S kk ii = S kk ii := fun kk ii hk => rfl
    rw [← hQ]
    exact z_iret (z := -1) CX hW (by rw [hE]; exact ⟨rfl, rfl, hI, hFr, trivial⟩) rfl dX12_rules_21
  ·
    refine lv_iload hX0 hB0 dX12_rules_10 (lv_at hl 4 rfl) ?_
    refine lv_iconst (v := zI 0) hX0 hB0 dX12_rules_12 rfl ?_
    refine lv_iconst (v := zI 3) hX0 hB0 dX12_rules_13 rfl ?_
    refine z_calli hW (va_runS (As := [.int (zI kind), .int (zI 0), .int (zI 3)]) (rest := []) CX.fix (zk_isIn l (f := zMO cI cJ o S f) kind 0 3 (by constructor <;> omega) (by constructor <;> omega) (by constructor <;> omega)) (va_cwS 3 CX.fix.2.2.2.2 gX12_rules_X12_isIn rfl rfl rfl (by decide +kernel) ⟨Nat.le_of_ble_eq_true rfl, Nat.le_of_ble_eq_true rfl⟩) (z_preS CX hW) rfl rfl hl.1 rfl (lv_room (Nat.le_of_ble_eq_true rfl)) dX12_rules_14 ⟨Nat.zero_le _, Nat.zero_le _⟩) (fun z14 gn H locs hok hW => ?_)
    obtain ⟨hz14, hg, hq14⟩ := hok
    rw [hg] at hW
    clear hg
    have e14 : zm_isIn kind 0 3 = z14 := hz14.symm
    clear hz14
    refine z_if_ne (tgt := 22) CX dX12_rules_17 (by decide) (by constructor <;> omega) (fun c_17 => ?_) (fun c_17 => ?_)
    ·
      refine lv_aload_n hX0 hB0 dX12_rules_22 rfl (lv_at hl 0 rfl) ?_
      refine lv_iload_n hX0 hB0 dX12_rules_23 rfl (lv_at hl 1 rfl) ?_
      refine lv_iload_n hX0 hB0 dX12_rules_24 rfl (lv_at hl 2 rfl) ?_
      refine lv_iload_n hX0 hB0 dX12_rules_25 rfl (lv_at hl 3 rfl) ?_
      refine z_calli hW (va_runV (C := RX12) (As := [.int (zI a), .int (zI b), .int (zI pt)]) (rest := []) CX.fix (zk_timesAt l o S a b pt hI (by constructor <;> omega) (by constructor <;> omega) (by constructor <;> omega) hH (by omega) (by omega)) (cwV 3 CX.fix.2.2.2.2 gX12_rules_X12_timesAt rfl rfl rfl (by decide +kernel) ⟨Nat.le_of_ble_eq_true rfl, Nat.le_of_ble_eq_true rfl⟩) (z_preV CX hW (r := (RX12, TX12, 37)) zMO_0 rfl) rfl rfl hl.1 rfl (lv_room (Nat.le_of_ble_eq_true rfl)) dX12_rules_26 ⟨Nat.zero_le _, Nat.zero_le _⟩) (fun z26 gn H locs hok hW => ?_)
      obtain ⟨hz26, hg, hI26, hf26, hq26⟩ := hok
      obtain ⟨S26, hS26⟩ : ∃ q, q = (zm_timesAt S a b pt).2 := ⟨_, rfl⟩
      rw [← hS26] at hg hI26 hf26
      skip
      try rw [← hS26] at hq26
      rw [hg] at hW
      clear hg
      have e26 : zm_timesAt S a b pt = (z26, S26) := Prod.ext hz26.symm hS26.symm
      clear hz26 hS26
      refine lv_bipush (v := zI (-2)) hX0 hB0 dX12_rules_29 (by decide) ?_
      refine z_icmp_ne (tgt := 38) CX dX12_rules_31 (by decide) (by constructor <;> omega) (by constructor <;> omega) (fun c_31 => ?_) (fun c_31 => ?_)
      ·
        refine lv_aload_n hX0 hB0 dX12_rules_38 rfl (lv_at hl 0 rfl) ?_
        refine z_get (Cn := RX12) (T := TX12) (N := 37) CX hW (v := .ref (o + 18)) zMO_0 rfl (fun w h => List.mem_cons_of_mem _ (List.mem_append_right _ h)) 32 (by decide) (List.mem_of_getElem? (i := 1) rfl) rfl rfl dX12_rules_39 ?_
        refine lv_iload hX0 hB0 dX12_rules_42 (lv_at hl 4 rfl) ?_
        refine z_iald (z := S26 18 kind.toNat) CX hW zMO_18 0 rfl (by refine ⟨?_, ?_, ?_⟩ <;> omega) rfl dX12_rules_44 ?_
        have hE : zm_rules S a b pt kind = (S26 18 kind.toNat, S26) := by unfold zm_rules; exact zlet_e e4 (zif_f c_7 (zlet_e e14 (zif_f c_17 (zlet_e e26 (zif_f c_31 rfl)))))
        have hFr : ∀ kk ii : Nat, ¬ (kk = 0 ∧ ii = 33) ∧ ¬ kk = 13 ∧ ¬ kk = 14 ∧ ¬ kk = 15 ∧ ¬ kk = 16 ∧ ¬ kk = 17 ∧ ¬ kk = 18 ∧ ¬ kk = 19 ∧ ¬ (kk = 3 ∧ 3500 ≤ (ii : Int)) → S26 kk ii = S kk ii := fun kk ii hk => (hf26 kk ii (by omega))
        rw [← hQ]
        exact z_iret (z := S26 18 kind.toNat) CX hW (by rw [hE]; exact ⟨rfl, rfl, hI26, hFr, trivial⟩) rfl dX12_rules_45
      ·
        refine lv_iconst (v := zI (-1)) hX0 hB0 dX12_rules_34 rfl ?_
        refine lv_goto (tgt := 45) hX0 hB0 dX12_rules_35 (by decide) ?_
        have hE : zm_rules S a b pt kind = (-1, S26) := by unfold zm_rules; exact zlet_e e4 (zif_f c_7 (zlet_e e14 (zif_f c_17 (zlet_e e26 (zif_t c_31 rfl)))))
        have hFr : ∀ kk ii : Nat, ¬ (kk = 0 ∧ ii = 33) ∧ ¬ kk = 13 ∧ ¬ kk = 14 ∧ ¬ kk = 15 ∧ ¬ kk = 16 ∧ ¬ kk = 17 ∧ ¬ kk = 18 ∧ ¬ kk = 19 ∧ ¬ (kk = 3 ∧ 3500 ≤ (ii : Int)) → S26 kk ii = S kk ii := fun kk ii hk => (hf26 kk ii (by omega))
        rw [← hQ]
        exact z_iret (z := -1) CX hW (by rw [hE]; exact ⟨rfl, rfl, hI26, hFr, trivial⟩) rfl dX12_rules_45
    ·
      refine lv_iconst (v := zI (-1)) hX0 hB0 dX12_rules_20 rfl ?_
      have hE : zm_rules S a b pt kind = (-1, S) := by unfold zm_rules; exact zlet_e e4 (zif_f c_7 (zlet_e e14 (zif_t c_17 rfl)))
      have hFr : ∀ kk ii : Nat, ¬ (kk = 0 ∧ ii = 33) ∧ ¬ kk = 13 ∧ ¬ kk = 14 ∧ ¬ kk = 15 ∧ ¬ kk = 16 ∧ ¬ kk = 17 ∧ ¬ kk = 18 ∧ ¬ kk = 19 ∧ ¬ (kk = 3 ∧ 3500 ≤ (ii : Int)) → S kk ii = S kk ii := fun kk ii hk => rfl
      rw [← hQ]
      exact z_iret (z := -1) CX hW (by rw [hE]; exact ⟨rfl, rfl, hI, hFr, trivial⟩) rfl dX12_rules_21
def zm_rule (S : zS2) (a : Int) (b : Int) (pt : Int) (k : Int) : Int × zS2 := zlet (zm_isAsked S a b pt) (fun z4 => (if z4 = 0 then (-1, S) else zlet (zm_timesAt S a b pt) (fun q14 => (fun (z14 : Int) (S14 : zS2) => (if z14 = -2 then (-1, S14) else zlet (zm_isIn k 0 ((S14 0 33) - 1)) (fun z33 => (if z33 = 0 then (-1, S14) else (if 4000 ≤ k then (-1, S14) else (S14 19 k.toNat, S14)))))) q14.1 q14.2)))
set_option maxRecDepth 100000 in
set_option maxHeartbeats 4000000 in
theorem zk_rule (l : Launch) {D : va_G} {cI cJ cZ cP cS cM : ClassId} {L : List Nat} {sz : Nat} {f : Nat → va_E} (o : Nat) (S : zS2) (a : Int) (b : Int) (pt : Int) (k : Int) (hI : mI S) (ha : -2147483648 ≤ a ∧ a ≤ 2147483647) (hb : -2147483648 ≤ b ∧ b ≤ 2147483647) (hpt : -2147483648 ≤ pt ∧ pt ≤ 2147483647) (hk : -2147483648 ≤ k ∧ k ≤ 2147483647) (hH : zqH S) : zMi l yX12_rule wsX12_rule 7 180 D (zT cI cJ cZ cP cS cM) L sz (zMO cI cJ o S f) [.ref o, .int (zI a), .int (zI b), .int (zI pt), .int (zI k)] (fun zv gv => zv = (zm_rule S a b pt k).1 ∧ gv = zMO cI cJ o (zm_rule S a b pt k).2 f ∧ mI (zm_rule S a b pt k).2 ∧ (∀ kk ii : Nat, ¬ (kk = 0 ∧ ii = 33) ∧ ¬ kk = 13 ∧ ¬ kk = 14 ∧ ¬ kk = 15 ∧ ¬ kk = 16 ∧ ¬ kk = 17 ∧ ¬ kk = 18 ∧ ¬ kk = 19 ∧ ¬ (kk = 3 ∧ 3500 ≤ (ii : Int)) → (zm_rule S a b pt k).2 kk ii = S kk ii) ∧ True) := by
  refine zWalk.met (nL := 5) (ret := (some .int)) (cc := cX12_rule) (by decide) rfl (Nat.le_of_ble_eq_true rfl) ?_
  intro pg en st mi ag bl mt cd ls CX hW hl
  have CX : zC pg st mi ag mt cd cX12_rule 5 (some .int) RX12 wsX12_rule := CX
  generalize hQ : MQ bl _ ag st 0 0 _ = Q
  have hX0 := CX.1
  have hB0 := CX.2.1
  have hl : lv_has ls 5 [(0, .ref o), (1, .int (zI a)), (2, .int (zI b)), (3, .int (zI pt)), (4, .int (zI k))] := hl
  obtain ⟨H, eH⟩ : ∃ H, H = st.heap := ⟨_, rfl⟩
  obtain ⟨locs, eL⟩ : ∃ L : List Loc, L = [] := ⟨_, rfl⟩
  have hW : zW D (zT cI cJ cZ cP cS cM) L (zQ L sz) st (zMO cI cJ o S f) st.heap H locs := by rw [eH, eL]; exact hW
  suffices hgo : W pg l en ({ frames := 7, cells := 0, slots := 0, locals := 180 } : Room) st mi ag bl mt cd H locs 0 0 Q (F0 mi 0 ls []) by rw [eH, eL] at hgo; exact hgo
  clear eH eL
  have hpb := hI.s10
  refine lv_aload_n hX0 hB0 dX12_rule_0 rfl (lv_at hl 0 rfl) ?_
  refine lv_iload_n hX0 hB0 dX12_rule_1 rfl (lv_at hl 1 rfl) ?_
  refine lv_iload_n hX0 hB0 dX12_rule_2 rfl (lv_at hl 2 rfl) ?_
  refine lv_iload_n hX0 hB0 dX12_rule_3 rfl (lv_at hl 3 rfl) ?_
  refine z_calli hW (va_runV (C := RX12) (As := [.int (zI a), .int (zI b), .int (zI pt)]) (rest := []) CX.fix (zk_isAsked l o S a b pt hI (by constructor <;> omega) (by constructor <;> omega) (by constructor <;> omega)) (cwV 3 CX.fix.2.2.2.2 gX12_rule_X12_isAsked rfl rfl rfl (by decide +kernel) ⟨Nat.le_of_ble_eq_true rfl, Nat.le_of_ble_eq_true rfl⟩) (z_preV CX hW (r := (RX12, TX12, 37)) zMO_0 rfl) rfl rfl hl.1 rfl (lv_room (Nat.le_of_ble_eq_true rfl)) dX12_rule_4 ⟨Nat.zero_le _, Nat.zero_le _⟩) (fun z4 gn H locs hok hW => ?_)
  obtain ⟨hz4, hg, hq4⟩ := hok
  rw [hg] at hW
  clear hg
  have e4 : zm_isAsked S a b pt = z4 := hz4.symm
  clear hz4
  refine z_if_eq (tgt := 22) CX dX12_rule_7 (by decide) (by constructor <;> omega) (fun c_7 => ?_) (fun c_7 => ?_)
  ·
    refine lv_iconst (v := zI (-1)) hX0 hB0 dX12_rule_22 rfl ?_
    have hE : zm_rule S a b pt k = (-1, S) := by unfold zm_rule; exact zlet_e e4 (zif_t c_7 rfl)
    have hFr : ∀ kk ii : Nat, ¬ (kk = 0 ∧ ii = 33) ∧ ¬ kk = 13 ∧ ¬ kk = 14 ∧ ¬ kk = 15 ∧ ¬ kk = 16 ∧ ¬ kk = 17 ∧ ¬ kk = 18 ∧ ¬ kk = 19 ∧ ¬ (kk = 3 ∧ 3500 ≤ (ii : Int)) → S kk ii = S kk ii := fun kk ii hk => rfl
    rw [← hQ]
    exact z_iret (z := -1) CX hW (by rw [hE]; exact ⟨rfl, rfl, hI, hFr, trivial⟩) rfl dX12_rule_23
  ·
    refine lv_aload_n hX0 hB0 dX12_rule_10 rfl (lv_at hl 0 rfl) ?_
    refine lv_iload_n hX0 hB0 dX12_rule_11 rfl (lv_at hl 1 rfl) ?_
    refine lv_iload_n hX0 hB0 dX12_rule_12 rfl (lv_at hl 2 rfl) ?_
    refine lv_iload_n hX0 hB0 dX12_rule_13 rfl (lv_at hl 3 rfl) ?_
    refine z_calli hW (va_runV (C := RX12) (As := [.int (zI a), .int (zI b), .int (zI pt)]) (rest := []) CX.fix (zk_timesAt l o S a b pt hI (by constructor <;> omega) (by constructor <;> omega) (by constructor <;> omega) hH (by omega) (by omega)) (cwV 3 CX.fix.2.2.2.2 gX12_rule_X12_timesAt rfl rfl rfl (by decide +kernel) ⟨Nat.le_of_ble_eq_true rfl, Nat.le_of_ble_eq_true rfl⟩) (z_preV CX hW (r := (RX12, TX12, 37)) zMO_0 rfl) rfl rfl hl.1 rfl (lv_room (Nat.le_of_ble_eq_true rfl)) dX12_rule_14 ⟨Nat.zero_le _, Nat.zero_le _⟩) (fun z14 gn H locs hok hW => ?_)
    obtain ⟨hz14, hg, hI14, hf14, hq14⟩ := hok
    obtain ⟨S14, hS14⟩ : ∃ q, q = (zm_timesAt S a b pt).2 := ⟨_, rfl⟩
    rw [← hS14] at hg hI14 hf14
    skip
    try rw [← hS14] at hq14
    rw [hg] at hW
    clear hg
    have e14 : zm_timesAt S a b pt = (z14, S14) := Prod.ext hz14.symm hS14.symm
    clear hz14 hS14
    refine lv_bipush (v := zI (-2)) hX0 hB0 dX12_rule_17 (by decide) ?_
    refine z_icmp_ne (tgt := 24) CX dX12_rule_19 (by decide) (by constructor <;> omega) (by constructor <;> omega) (fun c_19 => ?_) (fun c_19 => ?_)
    ·
      refine lv_iload hX0 hB0 dX12_rule_24 (lv_at hl 4 rfl) ?_
      refine lv_iconst (v := zI 0) hX0 hB0 dX12_rule_26 rfl ?_
      refine lv_aload_n hX0 hB0 dX12_rule_27 rfl (lv_at hl 0 rfl) ?_
      refine z_get (Cn := RX12) (T := TX12) (N := 37) CX hW (v := .int (zI (S14 0 33))) zMO_0 rfl (fun w h => List.mem_cons_of_mem _ (List.mem_append_right _ h)) 33 (by decide) (List.mem_of_getElem? (i := 1) rfl) rfl rfl dX12_rule_28 ?_
      refine lv_iconst (v := zI 1) hX0 hB0 dX12_rule_31 rfl ?_
      refine z_isub (z := (S14 0 33) - 1) CX dX12_rule_32 rfl ?_
      refine z_calli hW (va_runS (As := [.int (zI k), .int (zI 0), .int (zI ((S14 0 33) - 1))]) (rest := []) CX.fix (zk_isIn l (f := zMO cI cJ o S14 f) k 0 ((S14 0 33) - 1) (by constructor <;> omega) (by constructor <;> omega) (by constructor <;> omega)) (va_cwS 3 CX.fix.2.2.2.2 gX12_rule_X12_isIn rfl rfl rfl (by decide +kernel) ⟨Nat.le_of_ble_eq_true rfl, Nat.le_of_ble_eq_true rfl⟩) (z_preS CX hW) rfl rfl hl.1 rfl (lv_room (Nat.le_of_ble_eq_true rfl)) dX12_rule_33 ⟨Nat.zero_le _, Nat.zero_le _⟩) (fun z33 gn H locs hok hW => ?_)
      obtain ⟨hz33, hg, hq33⟩ := hok
      rw [hg] at hW
      clear hg
      have e33 : zm_isIn k 0 ((S14 0 33) - 1) = z33 := hz33.symm
      clear hz33
      refine z_if_eq (tgt := 57) CX dX12_rule_36 (by decide) (by constructor <;> omega) (fun c_36 => ?_) (fun c_36 => ?_)
      ·
        refine lv_iconst (v := zI (-1)) hX0 hB0 dX12_rule_57 rfl ?_
        have hE : zm_rule S a b pt k = (-1, S14) := by unfold zm_rule; exact zlet_e e4 (zif_f c_7 (zlet_e e14 (zif_f c_19 (zlet_e e33 (zif_t c_36 rfl)))))
        have hFr : ∀ kk ii : Nat, ¬ (kk = 0 ∧ ii = 33) ∧ ¬ kk = 13 ∧ ¬ kk = 14 ∧ ¬ kk = 15 ∧ ¬ kk = 16 ∧ ¬ kk = 17 ∧ ¬ kk = 18 ∧ ¬ kk = 19 ∧ ¬ (kk = 3 ∧ 3500 ≤ (ii : Int)) → S14 kk ii = S kk ii := fun kk ii hk => (hf14 kk ii (by omega))
        rw [← hQ]
        exact z_iret (z := -1) CX hW (by rw [hE]; exact ⟨rfl, rfl, hI14, hFr, trivial⟩) rfl dX12_rule_58
      ·
        refine lv_iload hX0 hB0 dX12_rule_39 (lv_at hl 4 rfl) ?_
        refine lv_sipush (v := zI 4000) hX0 hB0 dX12_rule_41 (by decide) ?_
        refine z_icmp_ge (tgt := 57) CX dX12_rule_44 (by decide) (by constructor <;> omega) (by constructor <;> omega) (fun c_44 => ?_) (fun c_44 => ?_)
        ·
          refine lv_iconst (v := zI (-1)) hX0 hB0 dX12_rule_57 rfl ?_
          have hE : zm_rule S a b pt k = (-1, S14) := by unfold zm_rule; exact zlet_e e4 (zif_f c_7 (zlet_e e14 (zif_f c_19 (zlet_e e33 (zif_f c_36 (zif_t c_44 rfl))))))
          have hFr : ∀ kk ii : Nat, ¬ (kk = 0 ∧ ii = 33) ∧ ¬ kk = 13 ∧ ¬ kk = 14 ∧ ¬ kk = 15 ∧ ¬ kk = 16 ∧ ¬ kk = 17 ∧ ¬ kk = 18 ∧ ¬ kk = 19 ∧ ¬ (kk = 3 ∧ 3500 ≤ (ii : Int)) → S14 kk ii = S kk ii := fun kk ii hk => (hf14 kk ii (by omega))
          rw [← hQ]
          exact z_iret (z := -1) CX hW (by rw [hE]; exact ⟨rfl, rfl, hI14, hFr, trivial⟩) rfl dX12_rule_58
        ·
          have d_44 : ¬ 4000 ≤ k := by omega
          refine lv_aload_n hX0 hB0 dX12_rule_47 rfl (lv_at hl 0 rfl) ?_
          refine z_get (Cn := RX12) (T := TX12) (N := 37) CX hW (v := .ref (o + 19)) zMO_0 rfl (fun w h => List.mem_cons_of_mem _ (List.mem_append_right _ h)) 34 (by decide) (List.mem_of_getElem? (i := 2) rfl) rfl rfl dX12_rule_48 ?_
          refine lv_iload hX0 hB0 dX12_rule_51 (lv_at hl 4 rfl) ?_
          refine z_iald (z := S14 19 k.toNat) CX hW zMO_19 0 rfl (by refine ⟨?_, ?_, ?_⟩ <;> omega) rfl dX12_rule_53 ?_
          have hr53 := hI14.r19 k.toNat
          refine lv_goto (tgt := 58) hX0 hB0 dX12_rule_54 (by decide) ?_
          have hE : zm_rule S a b pt k = (S14 19 k.toNat, S14) := by unfold zm_rule; exact zlet_e e4 (zif_f c_7 (zlet_e e14 (zif_f c_19 (zlet_e e33 (zif_f c_36 (zif_f d_44 rfl))))))
          have hFr : ∀ kk ii : Nat, ¬ (kk = 0 ∧ ii = 33) ∧ ¬ kk = 13 ∧ ¬ kk = 14 ∧ ¬ kk = 15 ∧ ¬ kk = 16 ∧ ¬ kk = 17 ∧ ¬ kk = 18 ∧ ¬ kk = 19 ∧ ¬ (kk = 3 ∧ 3500 ≤ (ii : Int)) → S14 kk ii = S kk ii := fun kk ii hk => (hf14 kk ii (by omega))
          rw [← hQ]
          exact z_iret (z := S14 19 k.toNat) CX hW (by rw [hE]; exact ⟨rfl, rfl, hI14, hFr, trivial⟩) rfl dX12_rule_58
    ·
      refine lv_iconst (v := zI (-1)) hX0 hB0 dX12_rule_22 rfl ?_
      have hE : zm_rule S a b pt k = (-1, S14) := by unfold zm_rule; exact zlet_e e4 (zif_f c_7 (zlet_e e14 (zif_t c_19 rfl)))
      have hFr : ∀ kk ii : Nat, ¬ (kk = 0 ∧ ii = 33) ∧ ¬ kk = 13 ∧ ¬ kk = 14 ∧ ¬ kk = 15 ∧ ¬ kk = 16 ∧ ¬ kk = 17 ∧ ¬ kk = 18 ∧ ¬ kk = 19 ∧ ¬ (kk = 3 ∧ 3500 ≤ (ii : Int)) → S14 kk ii = S kk ii := fun kk ii hk => (hf14 kk ii (by omega))
      rw [← hQ]
      exact z_iret (z := -1) CX hW (by rw [hE]; exact ⟨rfl, rfl, hI14, hFr, trivial⟩) rfl dX12_rule_23
def zm_pilesLocal_f_L34 (i2 : Int) (i10 : Int) (i25 : Int) : Int → zS2 → zS2 := fun i34 s34 => (fun (S34 : zS2) => (if 16 < ((i2 + i10) + i25) + i34 then S34 else zlet (zm_longAt (i2 + i25) (i10 + i34)) (fun z69 => zlet (za S34 12 z69.toNat (S34 16 (((17 * i25) + i34).toNat))) (fun S82 => S82)))) s34
def zm_pilesLocal_f_L25 (i2 : Int) (i10 : Int) : Int → zS2 → zS2 := fun i25 s25 => (fun (S25 : zS2) => zlet (zfor (zm_pilesLocal_f_L34 i2 i10 i25) 0 S25 ((4 - i25) + 1 - 0).toNat) (fun S34 => S34)) s25
def zm_pilesLocal_f_L10 (i2 : Int) : Int → zS2 → zS2 := fun i10 s10 => (fun (S10 : zS2) => zlet (zm_emptiesVector S10) (fun S19 => zlet (zfor (zm_pilesLocal_f_L25 i2 i10) 0 S19 (4 + 1 - 0 : Int).toNat) (fun S25 => zlet (zm_piles S25) (fun q101 => (fun (z101 : Int) (S101 : zS2) => (if z101 = 0 then zlet (za S101 0 26 ((S25 0 26) + 0)) (fun S113 => S113) else zlet (za S101 0 26 ((S25 0 26) + 1)) (fun S113 => S113))) q101.1 q101.2)))) s10
def zm_pilesLocal_f_L2  : Int → zS2 → zS2 := fun i2 s2 => (fun (S2 : zS2) => zlet (zfor (zm_pilesLocal_f_L10 i2) 0 S2 ((16 - i2) + 1 - 0).toNat) (fun S10 => S10)) s2
def zm_pilesLocal_f (S : zS2)  : zS2 := zlet (zfor (zm_pilesLocal_f_L2) 0 S (16 + 1 - 0 : Int).toNat) (fun S2 => S2)
set_option maxRecDepth 100000 in
set_option maxHeartbeats 4000000 in
theorem zk_pilesLocal_f (l : Launch) {D : va_G} {cI cJ cZ cP cS cM : ClassId} {L : List Nat} {sz : Nat} {f : Nat → va_E} (o : Nat) (S : zS2)  (hI : mI S)  (hpv : S 0 23 = zcnt (S 11) (S 0 24).toNat) (hw : S 0 24 = 153) : zMv l yX12_pilesLocal wsX12_pilesLocal 4 93 D (zT cI cJ cZ cP cS cM) L sz (zMO cI cJ o S f) [.ref o, .ref (o + 16)] (fun gv => gv = zMO cI cJ o (zm_pilesLocal_f S) f ∧ mI (zm_pilesLocal_f S) ∧ (∀ kk ii : Nat, ¬ (kk = 0 ∧ ii = 23) ∧ ¬ (kk = 0 ∧ ii = 26) ∧ ¬ kk = 10 ∧ ¬ kk = 11 ∧ ¬ kk = 12 → (zm_pilesLocal_f S) kk ii = S kk ii) ∧ (zm_pilesLocal_f S) 0 23 = zcnt ((zm_pilesLocal_f S) 11) ((zm_pilesLocal_f S) 0 24).toNat) := by
  refine zWalk.met (nL := 6) (ret := none) (cc := cX12_pilesLocal) (by decide) rfl (Nat.le_of_ble_eq_true rfl) ?_
  intro pg en st mi ag bl mt cd ls CX hW hl
  have CX : zC pg st mi ag mt cd cX12_pilesLocal 6 none RX12 wsX12_pilesLocal := CX
  generalize hQ : MQ bl _ ag st 0 0 _ = Q
  have hX0 := CX.1
  have hB0 := CX.2.1
  have hl : lv_has ls 6 [(0, .ref o), (1, .ref (o + 16))] := hl
  obtain ⟨H, eH⟩ : ∃ H, H = st.heap := ⟨_, rfl⟩
  obtain ⟨locs, eL⟩ : ∃ L : List Loc, L = [] := ⟨_, rfl⟩
  have hW : zW D (zT cI cJ cZ cP cS cM) L (zQ L sz) st (zMO cI cJ o S f) st.heap H locs := by rw [eH, eL]; exact hW
  suffices hgo : W pg l en ({ frames := 4, cells := 0, slots := 0, locals := 93 } : Room) st mi ag bl mt cd H locs 0 0 Q (F0 mi 0 ls []) by rw [eH, eL] at hgo; exact hgo
  clear eH eL
  have hpb := hI.s10
  refine lv_iconst (v := zI 0) hX0 hB0 dX12_pilesLocal_0 rfl ?_
  refine lv_istore_n (lv' := [(2, .int (zI 0)), (0, .ref o), (1, .ref (o + 16))]) hX0 hB0 dX12_pilesLocal_1 rfl hl (by decide) rfl (fun ls hl => ?_)
  have hL2 : ∀ (fu : Nat) (i2 : Int) (S2 : zS2), ((0 ≤ i2 ∧ i2 ≤ 16 + 1) ∧ zfor (zm_pilesLocal_f_L2) 0 S (i2 - 0).toNat = S2 ∧ mI S2 ∧ (∀ kk ii : Nat, ¬ (kk = 0 ∧ ii = 23) ∧ ¬ (kk = 0 ∧ ii = 26) ∧ ¬ kk = 10 ∧ ¬ kk = 11 ∧ ¬ kk = 12 → S2 kk ii = S kk ii) ∧ (S2 0 23 = zcnt (S2 11) (S2 0 24).toNat)) → (16 + 1 - i2).toNat < fu → ∀ (H : Heap) (locs : List Loc) (ls : Array Slot), zW D (zT cI cJ cZ cP cS cM) L (zQ L sz) st (zMO cI cJ o S2 f) st.heap H locs → lv_has ls 6 [(2, .int (zI i2)), (0, .ref o), (1, .ref (o + 16))] → W pg l en ({ frames := 4, cells := 0, slots := 0, locals := 93 } : Room) st mi ag bl mt cd H locs 0 0 Q (F0 mi 2 ls []) := by
    intro fu
    induction fu with
    | zero => intro i2 S2 _ hfu; exact absurd hfu (Nat.not_lt_zero _)
    | succ fu ih2 =>
      intro i2 S2 hinv hfu2 H locs ls hW hl
      obtain ⟨⟨hlo2, hhi2⟩, hz2, hI2, hf2, hv2⟩ := hinv
      have hp2 := hI2.s10
      have t2_24 : S2 0 24 = S 0 24 := hf2 0 24 (by omega)
      refine lv_iload_n hX0 hB0 dX12_pilesLocal_2 rfl (lv_at hl 0 rfl) ?_
      refine lv_bipush (v := zI 16) hX0 hB0 dX12_pilesLocal_3 (by decide) ?_
      refine z_icmp_gt (tgt := 128) CX dX12_pilesLocal_5 (by decide) (by constructor <;> omega) (by constructor <;> omega) (fun c_5 => ?_) (fun c_5 => ?_)
      ·
        have e2 : zfor (zm_pilesLocal_f_L2) 0 S (16 + 1 - 0 : Int).toNat = S2 := by rw [show (16 + 1 - 0 : Int).toNat = (i2 - 0).toNat by omega]; exact hz2
        have hE : zm_pilesLocal_f S = S2 := by unfold zm_pilesLocal_f; exact zlet_e e2 rfl
        have hFr : ∀ kk ii : Nat, ¬ (kk = 0 ∧ ii = 23) ∧ ¬ (kk = 0 ∧ ii = 26) ∧ ¬ kk = 10 ∧ ¬ kk = 11 ∧ ¬ kk = 12 → S2 kk ii = S kk ii := fun kk ii hk => (hf2 kk ii (by omega))
        rw [← hQ]
        exact z_vret CX hW (by rw [hE]; exact ⟨rfl, hI2, hFr, (show S2 0 23 = zcnt (S2 11) (S2 0 24).toNat from by omega)⟩) dX12_pilesLocal_128
      ·
        refine lv_iconst (v := zI 0) hX0 hB0 dX12_pilesLocal_8 rfl ?_
        refine lv_istore_n (lv' := [(3, .int (zI 0)), (2, .int (zI i2)), (0, .ref o), (1, .ref (o + 16))]) hX0 hB0 dX12_pilesLocal_9 rfl hl (by decide) rfl (fun ls hl => ?_)
        have hL10 : ∀ (fu : Nat) (i10 : Int) (S10 : zS2), ((0 ≤ i10 ∧ i10 ≤ 16 - i2 + 1) ∧ zfor (zm_pilesLocal_f_L10 i2) 0 S2 (i10 - 0).toNat = S10 ∧ mI S10 ∧ (∀ kk ii : Nat, ¬ (kk = 0 ∧ ii = 23) ∧ ¬ (kk = 0 ∧ ii = 26) ∧ ¬ kk = 10 ∧ ¬ kk = 11 ∧ ¬ kk = 12 → S10 kk ii = S2 kk ii) ∧ (S10 0 23 = zcnt (S10 11) (S10 0 24).toNat)) → ((16 - i2) + 1 - i10).toNat < fu → ∀ (H : Heap) (locs : List Loc) (ls : Array Slot), zW D (zT cI cJ cZ cP cS cM) L (zQ L sz) st (zMO cI cJ o S10 f) st.heap H locs → lv_has ls 6 [(3, .int (zI i10)), (2, .int (zI i2)), (0, .ref o), (1, .ref (o + 16))] → W pg l en ({ frames := 4, cells := 0, slots := 0, locals := 93 } : Room) st mi ag bl mt cd H locs 0 0 Q (F0 mi 10 ls []) := by
          intro fu
          induction fu with
          | zero => intro i10 S10 _ hfu; exact absurd hfu (Nat.not_lt_zero _)
          | succ fu ih10 =>
            intro i10 S10 hinv hfu10 H locs ls hW hl
            obtain ⟨⟨hlo10, hhi10⟩, hz10, hI10, hf10, hv10⟩ := hinv
            have hp10 := hI10.s10
            have t10_24 : S10 0 24 = S2 0 24 := hf10 0 24 (by omega)
            refine lv_iload_n hX0 hB0 dX12_pilesLocal_10 rfl (lv_at hl 1 rfl) ?_
            refine lv_iload_n hX0 hB0 dX12_pilesLocal_11 rfl (lv_at hl 0 rfl) ?_
            refine z_iadd (z := i2 + i10) CX dX12_pilesLocal_12 rfl ?_
            refine lv_bipush (v := zI 16) hX0 hB0 dX12_pilesLocal_13 (by decide) ?_
            refine z_icmp_gt (tgt := 122) CX dX12_pilesLocal_15 (by decide) (by constructor <;> omega) (by constructor <;> omega) (fun c_15 => ?_) (fun c_15 => ?_)
            ·
              have e10 : zfor (zm_pilesLocal_f_L10 i2) 0 S2 ((16 - i2) + 1 - 0).toNat = S10 := by rw [show ((16 - i2) + 1 - 0).toNat = (i10 - 0).toNat by omega]; exact hz10
              refine lv_iinc (v := zI (i2 + 1)) (lv' := [(2, .int (zI (i2 + 1))), (3, .int (zI i10)), (0, .ref o), (1, .ref (o + 16))]) hX0 hB0 dX12_pilesLocal_122 hl (k := 1) rfl (zI_add _ _) (by decide) rfl (fun ls hl => ?_)
              refine lv_goto (tgt := 2) hX0 hB0 dX12_pilesLocal_125 (by decide) ?_
              exact ih2 (i2 + 1) S10 ⟨⟨by omega, by omega⟩, (zfor_s _ _ _ (by omega)).trans ((congrArg (zm_pilesLocal_f_L2 i2) hz2).trans (by unfold zm_pilesLocal_f_L2; exact zlet_e e10 rfl)), hI10, fun kk ii hk => ((hf10 kk ii (by omega))).trans (hf2 kk ii (by omega)), hv10⟩ (by omega) H locs ls hW (lv_sub hl [0, 2, 3] rfl)
            ·
              refine lv_aload_n hX0 hB0 dX12_pilesLocal_18 rfl (lv_at hl 2 rfl) ?_
              refine z_callv hW (va_runV (C := RX12) (As := []) (rest := []) CX.fix (zk_emptiesVector l o S10  hI10 ) (cwV 0 CX.fix.2.2.2.2 gX12_pilesLocal_X12_emptiesVector rfl rfl rfl (by decide +kernel) ⟨Nat.le_of_ble_eq_true rfl, Nat.le_of_ble_eq_true rfl⟩) (z_preV CX hW (r := (RX12, TX12, 37)) zMO_0 rfl) rfl rfl hl.1 rfl (lv_room (Nat.le_of_ble_eq_true rfl)) dX12_pilesLocal_19 ⟨Nat.zero_le _, Nat.zero_le _⟩) (fun gn H locs hok hW => ?_)
              obtain ⟨hg, hI19, hf19, hq19⟩ := hok
              obtain ⟨S19, e19⟩ : ∃ q, zm_emptiesVector S10 = q := ⟨_, rfl⟩
              rw [e19] at hg hI19 hf19
              have t19_24 : S19 0 24 = S10 0 24 := hf19 0 24 (by omega)
              skip
              try rw [e19] at hq19
              rw [hg] at hW
              clear hg
              refine lv_iconst (v := zI 0) hX0 hB0 dX12_pilesLocal_22 rfl ?_
              refine lv_istore (lv' := [(4, .int (zI 0)), (3, .int (zI i10)), (2, .int (zI i2)), (0, .ref o), (1, .ref (o + 16))]) hX0 hB0 dX12_pilesLocal_23 hl (by decide) rfl (fun ls hl => ?_)
              have hL25 : ∀ (fu : Nat) (i25 : Int) (S25 : zS2), ((0 ≤ i25 ∧ i25 ≤ 4 + 1) ∧ zfor (zm_pilesLocal_f_L25 i2 i10) 0 S19 (i25 - 0).toNat = S25 ∧ mI S25 ∧ (∀ kk ii : Nat, ¬ kk = 12 → S25 kk ii = S19 kk ii)) → (4 + 1 - i25).toNat < fu → ∀ (H : Heap) (locs : List Loc) (ls : Array Slot), zW D (zT cI cJ cZ cP cS cM) L (zQ L sz) st (zMO cI cJ o S25 f) st.heap H locs → lv_has ls 6 [(4, .int (zI i25)), (3, .int (zI i10)), (2, .int (zI i2)), (0, .ref o), (1, .ref (o + 16))] → W pg l en ({ frames := 4, cells := 0, slots := 0, locals := 93 } : Room) st mi ag bl mt cd H locs 0 0 Q (F0 mi 25 ls []) := by
                intro fu
                induction fu with
                | zero => intro i25 S25 _ hfu; exact absurd hfu (Nat.not_lt_zero _)
                | succ fu ih25 =>
                  intro i25 S25 hinv hfu25 H locs ls hW hl
                  obtain ⟨⟨hlo25, hhi25⟩, hz25, hI25, hf25⟩ := hinv
                  have hp25 := hI25.s10
                  have t25_24 : S25 0 24 = S19 0 24 := hf25 0 24 (by omega)
                  refine lv_iload hX0 hB0 dX12_pilesLocal_25 (lv_at hl 0 rfl) ?_
                  refine lv_iconst (v := zI 4) hX0 hB0 dX12_pilesLocal_27 rfl ?_
                  refine z_icmp_gt (tgt := 95) CX dX12_pilesLocal_28 (by decide) (by constructor <;> omega) (by constructor <;> omega) (fun c_28 => ?_) (fun c_28 => ?_)
                  ·
                    have e25 : zfor (zm_pilesLocal_f_L25 i2 i10) 0 S19 (4 + 1 - 0 : Int).toNat = S25 := by rw [show (4 + 1 - 0 : Int).toNat = (i25 - 0).toNat by omega]; exact hz25
                    refine lv_aload_n hX0 hB0 dX12_pilesLocal_95 rfl (lv_at hl 3 rfl) ?_
                    refine lv_dup hX0 hB0 dX12_pilesLocal_96 rfl ?_
                    refine z_get (Cn := RX12) (T := TX12) (N := 37) CX hW (v := .int (zI (S25 0 26))) zMO_0 rfl (fun w h => List.mem_cons_of_mem _ (List.mem_append_right _ h)) 26 (by decide) (List.mem_of_getElem? (i := 2) rfl) rfl rfl dX12_pilesLocal_97 ?_
                    refine lv_aload_n hX0 hB0 dX12_pilesLocal_100 rfl (lv_at hl 3 rfl) ?_
                    refine z_calli hW (va_runV (C := RX12) (As := []) (rest := [.int (zI (S25 0 26)), .ref o]) CX.fix (zk_piles l o S25  hI25 (by rw [show S25 11 = S10 11 from funext (fun ii => ((hf25 11 ii (by omega))).trans (hf19 11 ii (by omega))), show S25 0 23 = S10 0 23 from ((hf25 0 23 (by omega))).trans (hf19 0 23 (by omega)), show S25 0 24 = S10 0 24 from ((hf25 0 24 (by omega))).trans (hf19 0 24 (by omega))]; exact hv10)) (cwV 0 CX.fix.2.2.2.2 gX12_pilesLocal_X12_piles rfl rfl rfl (by decide +kernel) ⟨Nat.le_of_ble_eq_true rfl, Nat.le_of_ble_eq_true rfl⟩) (z_preV CX hW (r := (RX12, TX12, 37)) zMO_0 rfl) rfl rfl hl.1 rfl (lv_room (Nat.le_of_ble_eq_true rfl)) dX12_pilesLocal_101 ⟨Nat.zero_le _, Nat.zero_le _⟩) (fun z101 gn H locs hok hW => ?_)
                    obtain ⟨hz101, hg, hI101, hf101, hq101⟩ := hok
                    obtain ⟨S101, hS101⟩ : ∃ q, q = (zm_piles S25).2 := ⟨_, rfl⟩
                    rw [← hS101] at hg hI101 hf101
                    have t101_24 : S101 0 24 = S25 0 24 := hf101 0 24 (by omega)
                    skip
                    try rw [← hS101] at hq101
                    rw [hg] at hW
                    clear hg
                    have e101 : zm_piles S25 = (z101, S101) := Prod.ext hz101.symm hS101.symm
                    clear hz101 hS101
                    refine z_if_eq (tgt := 111) CX dX12_pilesLocal_104 (by decide) (by constructor <;> omega) (fun c_104 => ?_) (fun c_104 => ?_)
                    ·
                      refine lv_iconst (v := zI 0) hX0 hB0 dX12_pilesLocal_111 rfl ?_
                      refine z_iadd (z := (S25 0 26) + 0) CX dX12_pilesLocal_112 rfl ?_
                      obtain ⟨S113, e113⟩ : ∃ q, za S101 0 26 ((S25 0 26) + 0) = q := ⟨_, rfl⟩
                      refine z_put (Cn := RX12) (T := TX12) (N := 37) CX hW (v := .int (zI ((S25 0 26) + 0))) zMO_0 rfl (fun w h => List.mem_cons_of_mem _ (List.mem_append_right _ h)) tyX12 tyX12_ok nmX12 26 (by decide) (List.mem_of_getElem? (i := 2) rfl) rfl rfl rfl rfl (Nat.le_of_ble_eq_true rfl) (g := zMO cI cJ o S113 f) (zMO_s26.trans (by rw [e113])) dX12_pilesLocal_113 (fun H locs hW => ?_)
                      have hI113 : mI S113 := e113 ▸ hI101.v26 
                      have t113_24 : S113 0 24 = S101 0 24 := by rw [← e113]; exact za_ne (by omega)
                      refine lv_iinc (v := zI (i10 + 1)) (lv' := [(3, .int (zI (i10 + 1))), (4, .int (zI i25)), (2, .int (zI i2)), (0, .ref o), (1, .ref (o + 16))]) hX0 hB0 dX12_pilesLocal_116 hl (k := 1) rfl (zI_add _ _) (by decide) rfl (fun ls hl => ?_)
                      refine lv_goto (tgt := 10) hX0 hB0 dX12_pilesLocal_119 (by decide) ?_
                      exact ih10 (i10 + 1) S113 ⟨⟨by omega, by omega⟩, (zfor_s _ _ _ (by omega)).trans ((congrArg (zm_pilesLocal_f_L10 i2 i10) hz10).trans (by unfold zm_pilesLocal_f_L10; exact zlet_e e19 (zlet_e e25 (zlet_e e101 (zif_t c_104 (zlet_e e113 rfl)))))), hI113, fun kk ii hk => (((((show S113 kk ii = S101 kk ii from by rw [← e113]; exact za_ne (by omega))).trans (hf101 kk ii (by omega))).trans (hf25 kk ii (by omega))).trans (hf19 kk ii (by omega))).trans (hf10 kk ii (by omega)), (by rw [show S113 11 = S101 11 from funext (fun ii => (show S113 11 ii = S101 11 ii from by rw [← e113]; exact za_ne (by omega))), show S113 0 23 = S101 0 23 from (show S113 0 23 = S101 0 23 from by rw [← e113]; exact za_ne (by omega)), show S113 0 24 = S101 0 24 from (show S113 0 24 = S101 0 24 from by rw [← e113]; exact za_ne (by omega))]; exact hq101.2.2)⟩ (by omega) H locs ls hW (lv_sub hl [0, 2, 3, 4] rfl)
                    ·
                      refine lv_iconst (v := zI 1) hX0 hB0 dX12_pilesLocal_107 rfl ?_
                      refine lv_goto (tgt := 112) hX0 hB0 dX12_pilesLocal_108 (by decide) ?_
                      refine z_iadd (z := (S25 0 26) + 1) CX dX12_pilesLocal_112 rfl ?_
                      obtain ⟨S113, e113⟩ : ∃ q, za S101 0 26 ((S25 0 26) + 1) = q := ⟨_, rfl⟩
                      refine z_put (Cn := RX12) (T := TX12) (N := 37) CX hW (v := .int (zI ((S25 0 26) + 1))) zMO_0 rfl (fun w h => List.mem_cons_of_mem _ (List.mem_append_right _ h)) tyX12 tyX12_ok nmX12 26 (by decide) (List.mem_of_getElem? (i := 2) rfl) rfl rfl rfl rfl (Nat.le_of_ble_eq_true rfl) (g := zMO cI cJ o S113 f) (zMO_s26.trans (by rw [e113])) dX12_pilesLocal_113 (fun H locs hW => ?_)
                      have hI113 : mI S113 := e113 ▸ hI101.v26 
                      have t113_24 : S113 0 24 = S101 0 24 := by rw [← e113]; exact za_ne (by omega)
                      refine lv_iinc (v := zI (i10 + 1)) (lv' := [(3, .int (zI (i10 + 1))), (4, .int (zI i25)), (2, .int (zI i2)), (0, .ref o), (1, .ref (o + 16))]) hX0 hB0 dX12_pilesLocal_116 hl (k := 1) rfl (zI_add _ _) (by decide) rfl (fun ls hl => ?_)
                      refine lv_goto (tgt := 10) hX0 hB0 dX12_pilesLocal_119 (by decide) ?_
                      exact ih10 (i10 + 1) S113 ⟨⟨by omega, by omega⟩, (zfor_s _ _ _ (by omega)).trans ((congrArg (zm_pilesLocal_f_L10 i2 i10) hz10).trans (by unfold zm_pilesLocal_f_L10; exact zlet_e e19 (zlet_e e25 (zlet_e e101 (zif_f c_104 (zlet_e e113 rfl)))))), hI113, fun kk ii hk => (((((show S113 kk ii = S101 kk ii from by rw [← e113]; exact za_ne (by omega))).trans (hf101 kk ii (by omega))).trans (hf25 kk ii (by omega))).trans (hf19 kk ii (by omega))).trans (hf10 kk ii (by omega)), (by rw [show S113 11 = S101 11 from funext (fun ii => (show S113 11 ii = S101 11 ii from by rw [← e113]; exact za_ne (by omega))), show S113 0 23 = S101 0 23 from (show S113 0 23 = S101 0 23 from by rw [← e113]; exact za_ne (by omega)), show S113 0 24 = S101 0 24 from (show S113 0 24 = S101 0 24 from by rw [← e113]; exact za_ne (by omega))]; exact hq101.2.2)⟩ (by omega) H locs ls hW (lv_sub hl [0, 2, 3, 4] rfl)
                  ·
                    refine lv_iconst (v := zI 0) hX0 hB0 dX12_pilesLocal_31 rfl ?_
                    refine lv_istore (lv' := [(5, .int (zI 0)), (4, .int (zI i25)), (3, .int (zI i10)), (2, .int (zI i2)), (0, .ref o), (1, .ref (o + 16))]) hX0 hB0 dX12_pilesLocal_32 hl (by decide) rfl (fun ls hl => ?_)
                    have hL34 : ∀ (fu : Nat) (i34 : Int) (S34 : zS2), ((0 ≤ i34 ∧ i34 ≤ 4 - i25 + 1) ∧ zfor (zm_pilesLocal_f_L34 i2 i10 i25) 0 S25 (i34 - 0).toNat = S34 ∧ mI S34 ∧ (∀ kk ii : Nat, ¬ kk = 12 → S34 kk ii = S25 kk ii)) → ((4 - i25) + 1 - i34).toNat < fu → ∀ (H : Heap) (locs : List Loc) (ls : Array Slot), zW D (zT cI cJ cZ cP cS cM) L (zQ L sz) st (zMO cI cJ o S34 f) st.heap H locs → lv_has ls 6 [(5, .int (zI i34)), (4, .int (zI i25)), (3, .int (zI i10)), (2, .int (zI i2)), (0, .ref o), (1, .ref (o + 16))] → W pg l en ({ frames := 4, cells := 0, slots := 0, locals := 93 } : Room) st mi ag bl mt cd H locs 0 0 Q (F0 mi 34 ls []) := by
                      intro fu
                      induction fu with
                      | zero => intro i34 S34 _ hfu; exact absurd hfu (Nat.not_lt_zero _)
                      | succ fu ih34 =>
                        intro i34 S34 hinv hfu34 H locs ls hW hl
                        obtain ⟨⟨hlo34, hhi34⟩, hz34, hI34, hf34⟩ := hinv
                        have hp34 := hI34.s10
                        have t34_24 : S34 0 24 = S25 0 24 := hf34 0 24 (by omega)
                        refine lv_iload hX0 hB0 dX12_pilesLocal_34 (lv_at hl 1 rfl) ?_
                        refine lv_iload hX0 hB0 dX12_pilesLocal_36 (lv_at hl 0 rfl) ?_
                        refine z_iadd (z := i25 + i34) CX dX12_pilesLocal_38 rfl ?_
                        refine lv_iconst (v := zI 4) hX0 hB0 dX12_pilesLocal_39 rfl ?_
                        refine z_icmp_gt (tgt := 89) CX dX12_pilesLocal_40 (by decide) (by constructor <;> omega) (by constructor <;> omega) (fun c_40 => ?_) (fun c_40 => ?_)
                        ·
                          have e34 : zfor (zm_pilesLocal_f_L34 i2 i10 i25) 0 S25 ((4 - i25) + 1 - 0).toNat = S34 := by rw [show ((4 - i25) + 1 - 0).toNat = (i34 - 0).toNat by omega]; exact hz34
                          refine lv_iinc (v := zI (i25 + 1)) (lv' := [(4, .int (zI (i25 + 1))), (5, .int (zI i34)), (3, .int (zI i10)), (2, .int (zI i2)), (0, .ref o), (1, .ref (o + 16))]) hX0 hB0 dX12_pilesLocal_89 hl (k := 1) rfl (zI_add _ _) (by decide) rfl (fun ls hl => ?_)
                          refine lv_goto (tgt := 25) hX0 hB0 dX12_pilesLocal_92 (by decide) ?_
                          exact ih25 (i25 + 1) S34 ⟨⟨by omega, by omega⟩, (zfor_s _ _ _ (by omega)).trans ((congrArg (zm_pilesLocal_f_L25 i2 i10 i25) hz25).trans (by unfold zm_pilesLocal_f_L25; exact zlet_e e34 rfl)), hI34, fun kk ii hk => ((hf34 kk ii (by omega))).trans (hf25 kk ii (by omega))⟩ (by omega) H locs ls hW (lv_sub hl [0, 2, 3, 4, 5] rfl)
                        ·
                          refine lv_iload_n hX0 hB0 dX12_pilesLocal_43 rfl (lv_at hl 3 rfl) ?_
                          refine lv_iload_n hX0 hB0 dX12_pilesLocal_44 rfl (lv_at hl 2 rfl) ?_
                          refine z_iadd (z := i2 + i10) CX dX12_pilesLocal_45 rfl ?_
                          refine lv_iload hX0 hB0 dX12_pilesLocal_46 (lv_at hl 1 rfl) ?_
                          refine z_iadd (z := (i2 + i10) + i25) CX dX12_pilesLocal_48 rfl ?_
                          refine lv_iload hX0 hB0 dX12_pilesLocal_49 (lv_at hl 0 rfl) ?_
                          refine z_iadd (z := ((i2 + i10) + i25) + i34) CX dX12_pilesLocal_51 rfl ?_
                          refine lv_bipush (v := zI 16) hX0 hB0 dX12_pilesLocal_52 (by decide) ?_
                          refine z_icmp_gt (tgt := 83) CX dX12_pilesLocal_54 (by decide) (by constructor <;> omega) (by constructor <;> omega) (fun c_54 => ?_) (fun c_54 => ?_)
                          ·
                            refine lv_iinc (v := zI (i34 + 1)) (lv' := [(5, .int (zI (i34 + 1))), (4, .int (zI i25)), (3, .int (zI i10)), (2, .int (zI i2)), (0, .ref o), (1, .ref (o + 16))]) hX0 hB0 dX12_pilesLocal_83 hl (k := 0) rfl (zI_add _ _) (by decide) rfl (fun ls hl => ?_)
                            refine lv_goto (tgt := 34) hX0 hB0 dX12_pilesLocal_86 (by decide) ?_
                            exact ih34 (i34 + 1) S34 ⟨⟨by omega, by omega⟩, (zfor_s _ _ _ (by omega)).trans ((congrArg (zm_pilesLocal_f_L34 i2 i10 i25 i34) hz34).trans (by unfold zm_pilesLocal_f_L34; exact zif_t c_54 rfl)), hI34, fun kk ii hk => (hf34 kk ii (by omega))⟩ (by omega) H locs ls hW (lv_sub hl [0, 1, 2, 3, 4, 5] rfl)
                          ·
                            have d_54 : ¬ 16 < ((i2 + i10) + i25) + i34 := by omega
                            refine lv_aload_n hX0 hB0 dX12_pilesLocal_57 rfl (lv_at hl 4 rfl) ?_
                            refine z_get (Cn := RX12) (T := TX12) (N := 37) CX hW (v := .ref (o + 12)) zMO_0 rfl (fun w h => List.mem_cons_of_mem _ (List.mem_append_right _ h)) 25 (by decide) (List.mem_of_getElem? (i := 1) rfl) rfl rfl dX12_pilesLocal_58 ?_
                            refine lv_iload_n hX0 hB0 dX12_pilesLocal_61 rfl (lv_at hl 3 rfl) ?_
                            refine lv_iload hX0 hB0 dX12_pilesLocal_62 (lv_at hl 1 rfl) ?_
                            refine z_iadd (z := i2 + i25) CX dX12_pilesLocal_64 rfl ?_
                            refine lv_iload_n hX0 hB0 dX12_pilesLocal_65 rfl (lv_at hl 2 rfl) ?_
                            refine lv_iload hX0 hB0 dX12_pilesLocal_66 (lv_at hl 0 rfl) ?_
                            refine z_iadd (z := i10 + i34) CX dX12_pilesLocal_68 rfl ?_
                            refine z_calli hW (va_runS (As := [.int (zI (i2 + i25)), .int (zI (i10 + i34))]) (rest := [.ref (o + 12)]) CX.fix (zk_longAt l (f := zMO cI cJ o S34 f) (i2 + i25) (i10 + i34) (by constructor <;> omega) (by constructor <;> omega) (by omega)) (va_cwS 2 CX.fix.2.2.2.2 gX12_pilesLocal_X12_longAt rfl rfl rfl (by decide +kernel) ⟨Nat.le_of_ble_eq_true rfl, Nat.le_of_ble_eq_true rfl⟩) (z_preS CX hW) rfl rfl hl.1 rfl (lv_room (Nat.le_of_ble_eq_true rfl)) dX12_pilesLocal_69 ⟨Nat.zero_le _, Nat.zero_le _⟩) (fun z69 gn H locs hok hW => ?_)
                            obtain ⟨hz69, hg, hq69⟩ := hok
                            rw [hg] at hW
                            clear hg
                            have e69 : zm_longAt (i2 + i25) (i10 + i34) = z69 := hz69.symm
                            clear hz69
                            refine lv_aload_n hX0 hB0 dX12_pilesLocal_72 rfl (lv_at hl 5 rfl) ?_
                            refine lv_bipush (v := zI 17) hX0 hB0 dX12_pilesLocal_73 (by decide) ?_
                            refine lv_iload hX0 hB0 dX12_pilesLocal_75 (lv_at hl 1 rfl) ?_
                            refine z_imul (z := 17 * i25) CX dX12_pilesLocal_77 rfl ?_
                            refine lv_iload hX0 hB0 dX12_pilesLocal_78 (lv_at hl 0 rfl) ?_
                            refine z_iadd (z := (17 * i25) + i34) CX dX12_pilesLocal_80 rfl ?_
                            refine z_iald (z := S34 16 (((17 * i25) + i34).toNat)) CX hW zMO_16 0 rfl (by refine ⟨?_, ?_, ?_⟩ <;> omega) rfl dX12_pilesLocal_81 ?_
                            have hr81 := hI34.r16 (((17 * i25) + i34).toNat)
                            obtain ⟨S82, e82⟩ : ∃ q, za S34 12 z69.toNat (S34 16 (((17 * i25) + i34).toNat)) = q := ⟨_, rfl⟩
                            refine z_iast CX hW zMO_12 0 rfl (by refine ⟨?_, ?_, ?_⟩ <;> omega) (g := zMO cI cJ o S82 f) (zMO_w12.trans (by rw [← e82]; rfl)) dX12_pilesLocal_82 (fun H locs hW => ?_)
                            have hI82 : mI S82 := e82 ▸ hI34.w12 (by constructor <;> omega)
                            have t82_24 : S82 0 24 = S34 0 24 := by rw [← e82]; exact za_ne (by omega)
                            refine lv_iinc (v := zI (i34 + 1)) (lv' := [(5, .int (zI (i34 + 1))), (4, .int (zI i25)), (3, .int (zI i10)), (2, .int (zI i2)), (0, .ref o), (1, .ref (o + 16))]) hX0 hB0 dX12_pilesLocal_83 hl (k := 0) rfl (zI_add _ _) (by decide) rfl (fun ls hl => ?_)
                            refine lv_goto (tgt := 34) hX0 hB0 dX12_pilesLocal_86 (by decide) ?_
                            exact ih34 (i34 + 1) S82 ⟨⟨by omega, by omega⟩, (zfor_s _ _ _ (by omega)).trans ((congrArg (zm_pilesLocal_f_L34 i2 i10 i25 i34) hz34).trans (by unfold zm_pilesLocal_f_L34; exact zif_f d_54 (zlet_e e69 (zlet_e e82 rfl)))), hI82, fun kk ii hk => ((show S82 kk ii = S34 kk ii from by rw [← e82]; exact za_ne (by omega))).trans (hf34 kk ii (by omega))⟩ (by omega) H locs ls hW (lv_sub hl [0, 1, 2, 3, 4, 5] rfl)
                    exact hL34 _ 0 S25 ⟨⟨by omega, by omega⟩, zfor_0 _ _ _, hI25, fun kk ii hk => rfl⟩ (Nat.lt_succ_self _) H locs ls hW (lv_sub hl [0, 1, 2, 3, 4, 5] rfl)
              exact hL25 _ 0 S19 ⟨⟨by omega, by omega⟩, zfor_0 _ _ _, hI19, fun kk ii hk => rfl⟩ (Nat.lt_succ_self _) H locs ls hW (lv_sub hl [0, 1, 2, 3, 4] rfl)
        exact hL10 _ 0 S2 ⟨⟨by omega, by omega⟩, zfor_0 _ _ _, hI2, fun kk ii hk => rfl, hv2⟩ (Nat.lt_succ_self _) H locs ls hW (lv_sub hl [0, 1, 2, 3] rfl)
  exact hL2 _ 0 S ⟨⟨by omega, by omega⟩, zfor_0 _ _ _, hI, fun kk ii hk => rfl, hpv⟩ (Nat.lt_succ_self _) H locs ls hW (lv_sub hl [0, 1, 2] rfl)
def zm_pilesLocal_g_L34 (i2 : Int) (i10 : Int) (i25 : Int) : Int → zS2 → zS2 := fun i34 s34 => (fun (S34 : zS2) => (if 16 < ((i2 + i10) + i25) + i34 then S34 else zlet (zm_longAt (i2 + i25) (i10 + i34)) (fun z69 => zlet (za S34 12 z69.toNat (S34 17 (((17 * i25) + i34).toNat))) (fun S82 => S82)))) s34
def zm_pilesLocal_g_L25 (i2 : Int) (i10 : Int) : Int → zS2 → zS2 := fun i25 s25 => (fun (S25 : zS2) => zlet (zfor (zm_pilesLocal_g_L34 i2 i10 i25) 0 S25 ((4 - i25) + 1 - 0).toNat) (fun S34 => S34)) s25
def zm_pilesLocal_g_L10 (i2 : Int) : Int → zS2 → zS2 := fun i10 s10 => (fun (S10 : zS2) => zlet (zm_emptiesVector S10) (fun S19 => zlet (zfor (zm_pilesLocal_g_L25 i2 i10) 0 S19 (4 + 1 - 0 : Int).toNat) (fun S25 => zlet (zm_piles S25) (fun q101 => (fun (z101 : Int) (S101 : zS2) => (if z101 = 0 then zlet (za S101 0 26 ((S25 0 26) + 0)) (fun S113 => S113) else zlet (za S101 0 26 ((S25 0 26) + 1)) (fun S113 => S113))) q101.1 q101.2)))) s10
def zm_pilesLocal_g_L2  : Int → zS2 → zS2 := fun i2 s2 => (fun (S2 : zS2) => zlet (zfor (zm_pilesLocal_g_L10 i2) 0 S2 ((16 - i2) + 1 - 0).toNat) (fun S10 => S10)) s2
def zm_pilesLocal_g (S : zS2)  : zS2 := zlet (zfor (zm_pilesLocal_g_L2) 0 S (16 + 1 - 0 : Int).toNat) (fun S2 => S2)
set_option maxRecDepth 100000 in
set_option maxHeartbeats 4000000 in
theorem zk_pilesLocal_g (l : Launch) {D : va_G} {cI cJ cZ cP cS cM : ClassId} {L : List Nat} {sz : Nat} {f : Nat → va_E} (o : Nat) (S : zS2)  (hI : mI S)  (hpv : S 0 23 = zcnt (S 11) (S 0 24).toNat) (hw : S 0 24 = 153) : zMv l yX12_pilesLocal wsX12_pilesLocal 4 93 D (zT cI cJ cZ cP cS cM) L sz (zMO cI cJ o S f) [.ref o, .ref (o + 17)] (fun gv => gv = zMO cI cJ o (zm_pilesLocal_g S) f ∧ mI (zm_pilesLocal_g S) ∧ (∀ kk ii : Nat, ¬ (kk = 0 ∧ ii = 23) ∧ ¬ (kk = 0 ∧ ii = 26) ∧ ¬ kk = 10 ∧ ¬ kk = 11 ∧ ¬ kk = 12 → (zm_pilesLocal_g S) kk ii = S kk ii) ∧ (zm_pilesLocal_g S) 0 23 = zcnt ((zm_pilesLocal_g S) 11) ((zm_pilesLocal_g S) 0 24).toNat) := by
  refine zWalk.met (nL := 6) (ret := none) (cc := cX12_pilesLocal) (by decide) rfl (Nat.le_of_ble_eq_true rfl) ?_
  intro pg en st mi ag bl mt cd ls CX hW hl
  have CX : zC pg st mi ag mt cd cX12_pilesLocal 6 none RX12 wsX12_pilesLocal := CX
  generalize hQ : MQ bl _ ag st 0 0 _ = Q
  have hX0 := CX.1
  have hB0 := CX.2.1
  have hl : lv_has ls 6 [(0, .ref o), (1, .ref (o + 17))] := hl
  obtain ⟨H, eH⟩ : ∃ H, H = st.heap := ⟨_, rfl⟩
  obtain ⟨locs, eL⟩ : ∃ L : List Loc, L = [] := ⟨_, rfl⟩
  have hW : zW D (zT cI cJ cZ cP cS cM) L (zQ L sz) st (zMO cI cJ o S f) st.heap H locs := by rw [eH, eL]; exact hW
  suffices hgo : W pg l en ({ frames := 4, cells := 0, slots := 0, locals := 93 } : Room) st mi ag bl mt cd H locs 0 0 Q (F0 mi 0 ls []) by rw [eH, eL] at hgo; exact hgo
  clear eH eL
  have hpb := hI.s10
  refine lv_iconst (v := zI 0) hX0 hB0 dX12_pilesLocal_0 rfl ?_
  refine lv_istore_n (lv' := [(2, .int (zI 0)), (0, .ref o), (1, .ref (o + 17))]) hX0 hB0 dX12_pilesLocal_1 rfl hl (by decide) rfl (fun ls hl => ?_)
  have hL2 : ∀ (fu : Nat) (i2 : Int) (S2 : zS2), ((0 ≤ i2 ∧ i2 ≤ 16 + 1) ∧ zfor (zm_pilesLocal_g_L2) 0 S (i2 - 0).toNat = S2 ∧ mI S2 ∧ (∀ kk ii : Nat, ¬ (kk = 0 ∧ ii = 23) ∧ ¬ (kk = 0 ∧ ii = 26) ∧ ¬ kk = 10 ∧ ¬ kk = 11 ∧ ¬ kk = 12 → S2 kk ii = S kk ii) ∧ (S2 0 23 = zcnt (S2 11) (S2 0 24).toNat)) → (16 + 1 - i2).toNat < fu → ∀ (H : Heap) (locs : List Loc) (ls : Array Slot), zW D (zT cI cJ cZ cP cS cM) L (zQ L sz) st (zMO cI cJ o S2 f) st.heap H locs → lv_has ls 6 [(2, .int (zI i2)), (0, .ref o), (1, .ref (o + 17))] → W pg l en ({ frames := 4, cells := 0, slots := 0, locals := 93 } : Room) st mi ag bl mt cd H locs 0 0 Q (F0 mi 2 ls []) := by
    intro fu
    induction fu with
    | zero => intro i2 S2 _ hfu; exact absurd hfu (Nat.not_lt_zero _)
    | succ fu ih2 =>
      intro i2 S2 hinv hfu2 H locs ls hW hl
      obtain ⟨⟨hlo2, hhi2⟩, hz2, hI2, hf2, hv2⟩ := hinv
      have hp2 := hI2.s10
      have t2_24 : S2 0 24 = S 0 24 := hf2 0 24 (by omega)
      refine lv_iload_n hX0 hB0 dX12_pilesLocal_2 rfl (lv_at hl 0 rfl) ?_
      refine lv_bipush (v := zI 16) hX0 hB0 dX12_pilesLocal_3 (by decide) ?_
      refine z_icmp_gt (tgt := 128) CX dX12_pilesLocal_5 (by decide) (by constructor <;> omega) (by constructor <;> omega) (fun c_5 => ?_) (fun c_5 => ?_)
      ·
        have e2 : zfor (zm_pilesLocal_g_L2) 0 S (16 + 1 - 0 : Int).toNat = S2 := by rw [show (16 + 1 - 0 : Int).toNat = (i2 - 0).toNat by omega]; exact hz2
        have hE : zm_pilesLocal_g S = S2 := by unfold zm_pilesLocal_g; exact zlet_e e2 rfl
        have hFr : ∀ kk ii : Nat, ¬ (kk = 0 ∧ ii = 23) ∧ ¬ (kk = 0 ∧ ii = 26) ∧ ¬ kk = 10 ∧ ¬ kk = 11 ∧ ¬ kk = 12 → S2 kk ii = S kk ii := fun kk ii hk => (hf2 kk ii (by omega))
        rw [← hQ]
        exact z_vret CX hW (by rw [hE]; exact ⟨rfl, hI2, hFr, (show S2 0 23 = zcnt (S2 11) (S2 0 24).toNat from by omega)⟩) dX12_pilesLocal_128
      ·
        refine lv_iconst (v := zI 0) hX0 hB0 dX12_pilesLocal_8 rfl ?_
        refine lv_istore_n (lv' := [(3, .int (zI 0)), (2, .int (zI i2)), (0, .ref o), (1, .ref (o + 17))]) hX0 hB0 dX12_pilesLocal_9 rfl hl (by decide) rfl (fun ls hl => ?_)
        have hL10 : ∀ (fu : Nat) (i10 : Int) (S10 : zS2), ((0 ≤ i10 ∧ i10 ≤ 16 - i2 + 1) ∧ zfor (zm_pilesLocal_g_L10 i2) 0 S2 (i10 - 0).toNat = S10 ∧ mI S10 ∧ (∀ kk ii : Nat, ¬ (kk = 0 ∧ ii = 23) ∧ ¬ (kk = 0 ∧ ii = 26) ∧ ¬ kk = 10 ∧ ¬ kk = 11 ∧ ¬ kk = 12 → S10 kk ii = S2 kk ii) ∧ (S10 0 23 = zcnt (S10 11) (S10 0 24).toNat)) → ((16 - i2) + 1 - i10).toNat < fu → ∀ (H : Heap) (locs : List Loc) (ls : Array Slot), zW D (zT cI cJ cZ cP cS cM) L (zQ L sz) st (zMO cI cJ o S10 f) st.heap H locs → lv_has ls 6 [(3, .int (zI i10)), (2, .int (zI i2)), (0, .ref o), (1, .ref (o + 17))] → W pg l en ({ frames := 4, cells := 0, slots := 0, locals := 93 } : Room) st mi ag bl mt cd H locs 0 0 Q (F0 mi 10 ls []) := by
          intro fu
          induction fu with
          | zero => intro i10 S10 _ hfu; exact absurd hfu (Nat.not_lt_zero _)
          | succ fu ih10 =>
            intro i10 S10 hinv hfu10 H locs ls hW hl
            obtain ⟨⟨hlo10, hhi10⟩, hz10, hI10, hf10, hv10⟩ := hinv
            have hp10 := hI10.s10
            have t10_24 : S10 0 24 = S2 0 24 := hf10 0 24 (by omega)
            refine lv_iload_n hX0 hB0 dX12_pilesLocal_10 rfl (lv_at hl 1 rfl) ?_
            refine lv_iload_n hX0 hB0 dX12_pilesLocal_11 rfl (lv_at hl 0 rfl) ?_
            refine z_iadd (z := i2 + i10) CX dX12_pilesLocal_12 rfl ?_
            refine lv_bipush (v := zI 16) hX0 hB0 dX12_pilesLocal_13 (by decide) ?_
            refine z_icmp_gt (tgt := 122) CX dX12_pilesLocal_15 (by decide) (by constructor <;> omega) (by constructor <;> omega) (fun c_15 => ?_) (fun c_15 => ?_)
            ·
              have e10 : zfor (zm_pilesLocal_g_L10 i2) 0 S2 ((16 - i2) + 1 - 0).toNat = S10 := by rw [show ((16 - i2) + 1 - 0).toNat = (i10 - 0).toNat by omega]; exact hz10
              refine lv_iinc (v := zI (i2 + 1)) (lv' := [(2, .int (zI (i2 + 1))), (3, .int (zI i10)), (0, .ref o), (1, .ref (o + 17))]) hX0 hB0 dX12_pilesLocal_122 hl (k := 1) rfl (zI_add _ _) (by decide) rfl (fun ls hl => ?_)
              refine lv_goto (tgt := 2) hX0 hB0 dX12_pilesLocal_125 (by decide) ?_
              exact ih2 (i2 + 1) S10 ⟨⟨by omega, by omega⟩, (zfor_s _ _ _ (by omega)).trans ((congrArg (zm_pilesLocal_g_L2 i2) hz2).trans (by unfold zm_pilesLocal_g_L2; exact zlet_e e10 rfl)), hI10, fun kk ii hk => ((hf10 kk ii (by omega))).trans (hf2 kk ii (by omega)), hv10⟩ (by omega) H locs ls hW (lv_sub hl [0, 2, 3] rfl)
            ·
              refine lv_aload_n hX0 hB0 dX12_pilesLocal_18 rfl (lv_at hl 2 rfl) ?_
              refine z_callv hW (va_runV (C := RX12) (As := []) (rest := []) CX.fix (zk_emptiesVector l o S10  hI10 ) (cwV 0 CX.fix.2.2.2.2 gX12_pilesLocal_X12_emptiesVector rfl rfl rfl (by decide +kernel) ⟨Nat.le_of_ble_eq_true rfl, Nat.le_of_ble_eq_true rfl⟩) (z_preV CX hW (r := (RX12, TX12, 37)) zMO_0 rfl) rfl rfl hl.1 rfl (lv_room (Nat.le_of_ble_eq_true rfl)) dX12_pilesLocal_19 ⟨Nat.zero_le _, Nat.zero_le _⟩) (fun gn H locs hok hW => ?_)
              obtain ⟨hg, hI19, hf19, hq19⟩ := hok
              obtain ⟨S19, e19⟩ : ∃ q, zm_emptiesVector S10 = q := ⟨_, rfl⟩
              rw [e19] at hg hI19 hf19
              have t19_24 : S19 0 24 = S10 0 24 := hf19 0 24 (by omega)
              skip
              try rw [e19] at hq19
              rw [hg] at hW
              clear hg
              refine lv_iconst (v := zI 0) hX0 hB0 dX12_pilesLocal_22 rfl ?_
              refine lv_istore (lv' := [(4, .int (zI 0)), (3, .int (zI i10)), (2, .int (zI i2)), (0, .ref o), (1, .ref (o + 17))]) hX0 hB0 dX12_pilesLocal_23 hl (by decide) rfl (fun ls hl => ?_)
              have hL25 : ∀ (fu : Nat) (i25 : Int) (S25 : zS2), ((0 ≤ i25 ∧ i25 ≤ 4 + 1) ∧ zfor (zm_pilesLocal_g_L25 i2 i10) 0 S19 (i25 - 0).toNat = S25 ∧ mI S25 ∧ (∀ kk ii : Nat, ¬ kk = 12 → S25 kk ii = S19 kk ii)) → (4 + 1 - i25).toNat < fu → ∀ (H : Heap) (locs : List Loc) (ls : Array Slot), zW D (zT cI cJ cZ cP cS cM) L (zQ L sz) st (zMO cI cJ o S25 f) st.heap H locs → lv_has ls 6 [(4, .int (zI i25)), (3, .int (zI i10)), (2, .int (zI i2)), (0, .ref o), (1, .ref (o + 17))] → W pg l en ({ frames := 4, cells := 0, slots := 0, locals := 93 } : Room) st mi ag bl mt cd H locs 0 0 Q (F0 mi 25 ls []) := by
                intro fu
                induction fu with
                | zero => intro i25 S25 _ hfu; exact absurd hfu (Nat.not_lt_zero _)
                | succ fu ih25 =>
                  intro i25 S25 hinv hfu25 H locs ls hW hl
                  obtain ⟨⟨hlo25, hhi25⟩, hz25, hI25, hf25⟩ := hinv
                  have hp25 := hI25.s10
                  have t25_24 : S25 0 24 = S19 0 24 := hf25 0 24 (by omega)
                  refine lv_iload hX0 hB0 dX12_pilesLocal_25 (lv_at hl 0 rfl) ?_
                  refine lv_iconst (v := zI 4) hX0 hB0 dX12_pilesLocal_27 rfl ?_
                  refine z_icmp_gt (tgt := 95) CX dX12_pilesLocal_28 (by decide) (by constructor <;> omega) (by constructor <;> omega) (fun c_28 => ?_) (fun c_28 => ?_)
                  ·
                    have e25 : zfor (zm_pilesLocal_g_L25 i2 i10) 0 S19 (4 + 1 - 0 : Int).toNat = S25 := by rw [show (4 + 1 - 0 : Int).toNat = (i25 - 0).toNat by omega]; exact hz25
                    refine lv_aload_n hX0 hB0 dX12_pilesLocal_95 rfl (lv_at hl 3 rfl) ?_
                    refine lv_dup hX0 hB0 dX12_pilesLocal_96 rfl ?_
                    refine z_get (Cn := RX12) (T := TX12) (N := 37) CX hW (v := .int (zI (S25 0 26))) zMO_0 rfl (fun w h => List.mem_cons_of_mem _ (List.mem_append_right _ h)) 26 (by decide) (List.mem_of_getElem? (i := 2) rfl) rfl rfl dX12_pilesLocal_97 ?_
                    refine lv_aload_n hX0 hB0 dX12_pilesLocal_100 rfl (lv_at hl 3 rfl) ?_
                    refine z_calli hW (va_runV (C := RX12) (As := []) (rest := [.int (zI (S25 0 26)), .ref o]) CX.fix (zk_piles l o S25  hI25 (by rw [show S25 11 = S10 11 from funext (fun ii => ((hf25 11 ii (by omega))).trans (hf19 11 ii (by omega))), show S25 0 23 = S10 0 23 from ((hf25 0 23 (by omega))).trans (hf19 0 23 (by omega)), show S25 0 24 = S10 0 24 from ((hf25 0 24 (by omega))).trans (hf19 0 24 (by omega))]; exact hv10)) (cwV 0 CX.fix.2.2.2.2 gX12_pilesLocal_X12_piles rfl rfl rfl (by decide +kernel) ⟨Nat.le_of_ble_eq_true rfl, Nat.le_of_ble_eq_true rfl⟩) (z_preV CX hW (r := (RX12, TX12, 37)) zMO_0 rfl) rfl rfl hl.1 rfl (lv_room (Nat.le_of_ble_eq_true rfl)) dX12_pilesLocal_101 ⟨Nat.zero_le _, Nat.zero_le _⟩) (fun z101 gn H locs hok hW => ?_)
                    obtain ⟨hz101, hg, hI101, hf101, hq101⟩ := hok
                    obtain ⟨S101, hS101⟩ : ∃ q, q = (zm_piles S25).2 := ⟨_, rfl⟩
                    rw [← hS101] at hg hI101 hf101
                    have t101_24 : S101 0 24 = S25 0 24 := hf101 0 24 (by omega)
                    skip
                    try rw [← hS101] at hq101
                    rw [hg] at hW
                    clear hg
                    have e101 : zm_piles S25 = (z101, S101) := Prod.ext hz101.symm hS101.symm
                    clear hz101 hS101
                    refine z_if_eq (tgt := 111) CX dX12_pilesLocal_104 (by decide) (by constructor <;> omega) (fun c_104 => ?_) (fun c_104 => ?_)
                    ·
                      refine lv_iconst (v := zI 0) hX0 hB0 dX12_pilesLocal_111 rfl ?_
                      refine z_iadd (z := (S25 0 26) + 0) CX dX12_pilesLocal_112 rfl ?_
                      obtain ⟨S113, e113⟩ : ∃ q, za S101 0 26 ((S25 0 26) + 0) = q := ⟨_, rfl⟩
                      refine z_put (Cn := RX12) (T := TX12) (N := 37) CX hW (v := .int (zI ((S25 0 26) + 0))) zMO_0 rfl (fun w h => List.mem_cons_of_mem _ (List.mem_append_right _ h)) tyX12 tyX12_ok nmX12 26 (by decide) (List.mem_of_getElem? (i := 2) rfl) rfl rfl rfl rfl (Nat.le_of_ble_eq_true rfl) (g := zMO cI cJ o S113 f) (zMO_s26.trans (by rw [e113])) dX12_pilesLocal_113 (fun H locs hW => ?_)
                      have hI113 : mI S113 := e113 ▸ hI101.v26 
                      have t113_24 : S113 0 24 = S101 0 24 := by rw [← e113]; exact za_ne (by omega)
                      refine lv_iinc (v := zI (i10 + 1)) (lv' := [(3, .int (zI (i10 + 1))), (4, .int (zI i25)), (2, .int (zI i2)), (0, .ref o), (1, .ref (o + 17))]) hX0 hB0 dX12_pilesLocal_116 hl (k := 1) rfl (zI_add _ _) (by decide) rfl (fun ls hl => ?_)
                      refine lv_goto (tgt := 10) hX0 hB0 dX12_pilesLocal_119 (by decide) ?_
                      exact ih10 (i10 + 1) S113 ⟨⟨by omega, by omega⟩, (zfor_s _ _ _ (by omega)).trans ((congrArg (zm_pilesLocal_g_L10 i2 i10) hz10).trans (by unfold zm_pilesLocal_g_L10; exact zlet_e e19 (zlet_e e25 (zlet_e e101 (zif_t c_104 (zlet_e e113 rfl)))))), hI113, fun kk ii hk => (((((show S113 kk ii = S101 kk ii from by rw [← e113]; exact za_ne (by omega))).trans (hf101 kk ii (by omega))).trans (hf25 kk ii (by omega))).trans (hf19 kk ii (by omega))).trans (hf10 kk ii (by omega)), (by rw [show S113 11 = S101 11 from funext (fun ii => (show S113 11 ii = S101 11 ii from by rw [← e113]; exact za_ne (by omega))), show S113 0 23 = S101 0 23 from (show S113 0 23 = S101 0 23 from by rw [← e113]; exact za_ne (by omega)), show S113 0 24 = S101 0 24 from (show S113 0 24 = S101 0 24 from by rw [← e113]; exact za_ne (by omega))]; exact hq101.2.2)⟩ (by omega) H locs ls hW (lv_sub hl [0, 2, 3, 4] rfl)
                    ·
                      refine lv_iconst (v := zI 1) hX0 hB0 dX12_pilesLocal_107 rfl ?_
                      refine lv_goto (tgt := 112) hX0 hB0 dX12_pilesLocal_108 (by decide) ?_
                      refine z_iadd (z := (S25 0 26) + 1) CX dX12_pilesLocal_112 rfl ?_
                      obtain ⟨S113, e113⟩ : ∃ q, za S101 0 26 ((S25 0 26) + 1) = q := ⟨_, rfl⟩
                      refine z_put (Cn := RX12) (T := TX12) (N := 37) CX hW (v := .int (zI ((S25 0 26) + 1))) zMO_0 rfl (fun w h => List.mem_cons_of_mem _ (List.mem_append_right _ h)) tyX12 tyX12_ok nmX12 26 (by decide) (List.mem_of_getElem? (i := 2) rfl) rfl rfl rfl rfl (Nat.le_of_ble_eq_true rfl) (g := zMO cI cJ o S113 f) (zMO_s26.trans (by rw [e113])) dX12_pilesLocal_113 (fun H locs hW => ?_)
                      have hI113 : mI S113 := e113 ▸ hI101.v26 
                      have t113_24 : S113 0 24 = S101 0 24 := by rw [← e113]; exact za_ne (by omega)
                      refine lv_iinc (v := zI (i10 + 1)) (lv' := [(3, .int (zI (i10 + 1))), (4, .int (zI i25)), (2, .int (zI i2)), (0, .ref o), (1, .ref (o + 17))]) hX0 hB0 dX12_pilesLocal_116 hl (k := 1) rfl (zI_add _ _) (by decide) rfl (fun ls hl => ?_)
                      refine lv_goto (tgt := 10) hX0 hB0 dX12_pilesLocal_119 (by decide) ?_
                      exact ih10 (i10 + 1) S113 ⟨⟨by omega, by omega⟩, (zfor_s _ _ _ (by omega)).trans ((congrArg (zm_pilesLocal_g_L10 i2 i10) hz10).trans (by unfold zm_pilesLocal_g_L10; exact zlet_e e19 (zlet_e e25 (zlet_e e101 (zif_f c_104 (zlet_e e113 rfl)))))), hI113, fun kk ii hk => (((((show S113 kk ii = S101 kk ii from by rw [← e113]; exact za_ne (by omega))).trans (hf101 kk ii (by omega))).trans (hf25 kk ii (by omega))).trans (hf19 kk ii (by omega))).trans (hf10 kk ii (by omega)), (by rw [show S113 11 = S101 11 from funext (fun ii => (show S113 11 ii = S101 11 ii from by rw [← e113]; exact za_ne (by omega))), show S113 0 23 = S101 0 23 from (show S113 0 23 = S101 0 23 from by rw [← e113]; exact za_ne (by omega)), show S113 0 24 = S101 0 24 from (show S113 0 24 = S101 0 24 from by rw [← e113]; exact za_ne (by omega))]; exact hq101.2.2)⟩ (by omega) H locs ls hW (lv_sub hl [0, 2, 3, 4] rfl)
                  ·
                    refine lv_iconst (v := zI 0) hX0 hB0 dX12_pilesLocal_31 rfl ?_
                    refine lv_istore (lv' := [(5, .int (zI 0)), (4, .int (zI i25)), (3, .int (zI i10)), (2, .int (zI i2)), (0, .ref o), (1, .ref (o + 17))]) hX0 hB0 dX12_pilesLocal_32 hl (by decide) rfl (fun ls hl => ?_)
                    have hL34 : ∀ (fu : Nat) (i34 : Int) (S34 : zS2), ((0 ≤ i34 ∧ i34 ≤ 4 - i25 + 1) ∧ zfor (zm_pilesLocal_g_L34 i2 i10 i25) 0 S25 (i34 - 0).toNat = S34 ∧ mI S34 ∧ (∀ kk ii : Nat, ¬ kk = 12 → S34 kk ii = S25 kk ii)) → ((4 - i25) + 1 - i34).toNat < fu → ∀ (H : Heap) (locs : List Loc) (ls : Array Slot), zW D (zT cI cJ cZ cP cS cM) L (zQ L sz) st (zMO cI cJ o S34 f) st.heap H locs → lv_has ls 6 [(5, .int (zI i34)), (4, .int (zI i25)), (3, .int (zI i10)), (2, .int (zI i2)), (0, .ref o), (1, .ref (o + 17))] → W pg l en ({ frames := 4, cells := 0, slots := 0, locals := 93 } : Room) st mi ag bl mt cd H locs 0 0 Q (F0 mi 34 ls []) := by
                      intro fu
                      induction fu with
                      | zero => intro i34 S34 _ hfu; exact absurd hfu (Nat.not_lt_zero _)
                      | succ fu ih34 =>
                        intro i34 S34 hinv hfu34 H locs ls hW hl
                        obtain ⟨⟨hlo34, hhi34⟩, hz34, hI34, hf34⟩ := hinv
                        have hp34 := hI34.s10
                        have t34_24 : S34 0 24 = S25 0 24 := hf34 0 24 (by omega)
                        refine lv_iload hX0 hB0 dX12_pilesLocal_34 (lv_at hl 1 rfl) ?_
                        refine lv_iload hX0 hB0 dX12_pilesLocal_36 (lv_at hl 0 rfl) ?_
                        refine z_iadd (z := i25 + i34) CX dX12_pilesLocal_38 rfl ?_
                        refine lv_iconst (v := zI 4) hX0 hB0 dX12_pilesLocal_39 rfl ?_
                        refine z_icmp_gt (tgt := 89) CX dX12_pilesLocal_40 (by decide) (by constructor <;> omega) (by constructor <;> omega) (fun c_40 => ?_) (fun c_40 => ?_)
                        ·
                          have e34 : zfor (zm_pilesLocal_g_L34 i2 i10 i25) 0 S25 ((4 - i25) + 1 - 0).toNat = S34 := by rw [show ((4 - i25) + 1 - 0).toNat = (i34 - 0).toNat by omega]; exact hz34
                          refine lv_iinc (v := zI (i25 + 1)) (lv' := [(4, .int (zI (i25 + 1))), (5, .int (zI i34)), (3, .int (zI i10)), (2, .int (zI i2)), (0, .ref o), (1, .ref (o + 17))]) hX0 hB0 dX12_pilesLocal_89 hl (k := 1) rfl (zI_add _ _) (by decide) rfl (fun ls hl => ?_)
                          refine lv_goto (tgt := 25) hX0 hB0 dX12_pilesLocal_92 (by decide) ?_
                          exact ih25 (i25 + 1) S34 ⟨⟨by omega, by omega⟩, (zfor_s _ _ _ (by omega)).trans ((congrArg (zm_pilesLocal_g_L25 i2 i10 i25) hz25).trans (by unfold zm_pilesLocal_g_L25; exact zlet_e e34 rfl)), hI34, fun kk ii hk => ((hf34 kk ii (by omega))).trans (hf25 kk ii (by omega))⟩ (by omega) H locs ls hW (lv_sub hl [0, 2, 3, 4, 5] rfl)
                        ·
                          refine lv_iload_n hX0 hB0 dX12_pilesLocal_43 rfl (lv_at hl 3 rfl) ?_
                          refine lv_iload_n hX0 hB0 dX12_pilesLocal_44 rfl (lv_at hl 2 rfl) ?_
                          refine z_iadd (z := i2 + i10) CX dX12_pilesLocal_45 rfl ?_
                          refine lv_iload hX0 hB0 dX12_pilesLocal_46 (lv_at hl 1 rfl) ?_
                          refine z_iadd (z := (i2 + i10) + i25) CX dX12_pilesLocal_48 rfl ?_
                          refine lv_iload hX0 hB0 dX12_pilesLocal_49 (lv_at hl 0 rfl) ?_
                          refine z_iadd (z := ((i2 + i10) + i25) + i34) CX dX12_pilesLocal_51 rfl ?_
                          refine lv_bipush (v := zI 16) hX0 hB0 dX12_pilesLocal_52 (by decide) ?_
                          refine z_icmp_gt (tgt := 83) CX dX12_pilesLocal_54 (by decide) (by constructor <;> omega) (by constructor <;> omega) (fun c_54 => ?_) (fun c_54 => ?_)
                          ·
                            refine lv_iinc (v := zI (i34 + 1)) (lv' := [(5, .int (zI (i34 + 1))), (4, .int (zI i25)), (3, .int (zI i10)), (2, .int (zI i2)), (0, .ref o), (1, .ref (o + 17))]) hX0 hB0 dX12_pilesLocal_83 hl (k := 0) rfl (zI_add _ _) (by decide) rfl (fun ls hl => ?_)
                            refine lv_goto (tgt := 34) hX0 hB0 dX12_pilesLocal_86 (by decide) ?_
                            exact ih34 (i34 + 1) S34 ⟨⟨by omega, by omega⟩, (zfor_s _ _ _ (by omega)).trans ((congrArg (zm_pilesLocal_g_L34 i2 i10 i25 i34) hz34).trans (by unfold zm_pilesLocal_g_L34; exact zif_t c_54 rfl)), hI34, fun kk ii hk => (hf34 kk ii (by omega))⟩ (by omega) H locs ls hW (lv_sub hl [0, 1, 2, 3, 4, 5] rfl)
                          ·
                            have d_54 : ¬ 16 < ((i2 + i10) + i25) + i34 := by omega
                            refine lv_aload_n hX0 hB0 dX12_pilesLocal_57 rfl (lv_at hl 4 rfl) ?_
                            refine z_get (Cn := RX12) (T := TX12) (N := 37) CX hW (v := .ref (o + 12)) zMO_0 rfl (fun w h => List.mem_cons_of_mem _ (List.mem_append_right _ h)) 25 (by decide) (List.mem_of_getElem? (i := 1) rfl) rfl rfl dX12_pilesLocal_58 ?_
                            refine lv_iload_n hX0 hB0 dX12_pilesLocal_61 rfl (lv_at hl 3 rfl) ?_
                            refine lv_iload hX0 hB0 dX12_pilesLocal_62 (lv_at hl 1 rfl) ?_
                            refine z_iadd (z := i2 + i25) CX dX12_pilesLocal_64 rfl ?_
                            refine lv_iload_n hX0 hB0 dX12_pilesLocal_65 rfl (lv_at hl 2 rfl) ?_
                            refine lv_iload hX0 hB0 dX12_pilesLocal_66 (lv_at hl 0 rfl) ?_
                            refine z_iadd (z := i10 + i34) CX dX12_pilesLocal_68 rfl ?_
                            refine z_calli hW (va_runS (As := [.int (zI (i2 + i25)), .int (zI (i10 + i34))]) (rest := [.ref (o + 12)]) CX.fix (zk_longAt l (f := zMO cI cJ o S34 f) (i2 + i25) (i10 + i34) (by constructor <;> omega) (by constructor <;> omega) (by omega)) (va_cwS 2 CX.fix.2.2.2.2 gX12_pilesLocal_X12_longAt rfl rfl rfl (by decide +kernel) ⟨Nat.le_of_ble_eq_true rfl, Nat.le_of_ble_eq_true rfl⟩) (z_preS CX hW) rfl rfl hl.1 rfl (lv_room (Nat.le_of_ble_eq_true rfl)) dX12_pilesLocal_69 ⟨Nat.zero_le _, Nat.zero_le _⟩) (fun z69 gn H locs hok hW => ?_)
                            obtain ⟨hz69, hg, hq69⟩ := hok
                            rw [hg] at hW
                            clear hg
                            have e69 : zm_longAt (i2 + i25) (i10 + i34) = z69 := hz69.symm
                            clear hz69
                            refine lv_aload_n hX0 hB0 dX12_pilesLocal_72 rfl (lv_at hl 5 rfl) ?_
                            refine lv_bipush (v := zI 17) hX0 hB0 dX12_pilesLocal_73 (by decide) ?_
                            refine lv_iload hX0 hB0 dX12_pilesLocal_75 (lv_at hl 1 rfl) ?_
                            refine z_imul (z := 17 * i25) CX dX12_pilesLocal_77 rfl ?_
                            refine lv_iload hX0 hB0 dX12_pilesLocal_78 (lv_at hl 0 rfl) ?_
                            refine z_iadd (z := (17 * i25) + i34) CX dX12_pilesLocal_80 rfl ?_
                            refine z_iald (z := S34 17 (((17 * i25) + i34).toNat)) CX hW zMO_17 0 rfl (by refine ⟨?_, ?_, ?_⟩ <;> omega) rfl dX12_pilesLocal_81 ?_
                            have hr81 := hI34.r17 (((17 * i25) + i34).toNat)
                            obtain ⟨S82, e82⟩ : ∃ q, za S34 12 z69.toNat (S34 17 (((17 * i25) + i34).toNat)) = q := ⟨_, rfl⟩
                            refine z_iast CX hW zMO_12 0 rfl (by refine ⟨?_, ?_, ?_⟩ <;> omega) (g := zMO cI cJ o S82 f) (zMO_w12.trans (by rw [← e82]; rfl)) dX12_pilesLocal_82 (fun H locs hW => ?_)
                            have hI82 : mI S82 := e82 ▸ hI34.w12 (by constructor <;> omega)
                            have t82_24 : S82 0 24 = S34 0 24 := by rw [← e82]; exact za_ne (by omega)
                            refine lv_iinc (v := zI (i34 + 1)) (lv' := [(5, .int (zI (i34 + 1))), (4, .int (zI i25)), (3, .int (zI i10)), (2, .int (zI i2)), (0, .ref o), (1, .ref (o + 17))]) hX0 hB0 dX12_pilesLocal_83 hl (k := 0) rfl (zI_add _ _) (by decide) rfl (fun ls hl => ?_)
                            refine lv_goto (tgt := 34) hX0 hB0 dX12_pilesLocal_86 (by decide) ?_
                            exact ih34 (i34 + 1) S82 ⟨⟨by omega, by omega⟩, (zfor_s _ _ _ (by omega)).trans ((congrArg (zm_pilesLocal_g_L34 i2 i10 i25 i34) hz34).trans (by unfold zm_pilesLocal_g_L34; exact zif_f d_54 (zlet_e e69 (zlet_e e82 rfl)))), hI82, fun kk ii hk => ((show S82 kk ii = S34 kk ii from by rw [← e82]; exact za_ne (by omega))).trans (hf34 kk ii (by omega))⟩ (by omega) H locs ls hW (lv_sub hl [0, 1, 2, 3, 4, 5] rfl)
                    exact hL34 _ 0 S25 ⟨⟨by omega, by omega⟩, zfor_0 _ _ _, hI25, fun kk ii hk => rfl⟩ (Nat.lt_succ_self _) H locs ls hW (lv_sub hl [0, 1, 2, 3, 4, 5] rfl)
              exact hL25 _ 0 S19 ⟨⟨by omega, by omega⟩, zfor_0 _ _ _, hI19, fun kk ii hk => rfl⟩ (Nat.lt_succ_self _) H locs ls hW (lv_sub hl [0, 1, 2, 3, 4] rfl)
        exact hL10 _ 0 S2 ⟨⟨by omega, by omega⟩, zfor_0 _ _ _, hI2, fun kk ii hk => rfl, hv2⟩ (Nat.lt_succ_self _) H locs ls hW (lv_sub hl [0, 1, 2, 3] rfl)
  exact hL2 _ 0 S ⟨⟨by omega, by omega⟩, zfor_0 _ _ _, hI, fun kk ii hk => rfl, hpv⟩ (Nat.lt_succ_self _) H locs ls hW (lv_sub hl [0, 1, 2] rfl)
def zm_size (S : zS2) (a : Int) (b : Int) (pt : Int) : Int × zS2 := zlet (zm_isAsked S a b pt) (fun z4 => (if z4 = 0 then (-1, S) else zlet (zm_laysLong_f S a pt) (fun S19 => zlet (zm_laysLong_g S19 b pt) (fun S29 => zlet (zm_beginsPile S29 153) (fun S36 => zlet (zm_pilesLocal_f S36) (fun S44 => zlet (zm_pilesLocal_g S44) (fun S52 => (153 - (S52 0 23), S52))))))))
set_option maxRecDepth 100000 in
set_option maxHeartbeats 4000000 in
theorem zk_size (l : Launch) {D : va_G} {cI cJ cZ cP cS cM : ClassId} {L : List Nat} {sz : Nat} {f : Nat → va_E} (o : Nat) (S : zS2) (a : Int) (b : Int) (pt : Int) (hI : mI S) (ha : -2147483648 ≤ a ∧ a ≤ 2147483647) (hb : -2147483648 ≤ b ∧ b ≤ 2147483647) (hpt : -2147483648 ≤ pt ∧ pt ≤ 2147483647) : zMi l yX12_size wsX12_size 5 130 D (zT cI cJ cZ cP cS cM) L sz (zMO cI cJ o S f) [.ref o, .int (zI a), .int (zI b), .int (zI pt)] (fun zv gv => zv = (zm_size S a b pt).1 ∧ gv = zMO cI cJ o (zm_size S a b pt).2 f ∧ mI (zm_size S a b pt).2 ∧ (∀ kk ii : Nat, ¬ (kk = 0 ∧ ii = 23) ∧ ¬ (kk = 0 ∧ ii = 24) ∧ ¬ (kk = 0 ∧ ii = 26) ∧ ¬ kk = 10 ∧ ¬ kk = 11 ∧ ¬ kk = 12 ∧ ¬ kk = 16 ∧ ¬ kk = 17 ∧ ¬ (kk = 3 ∧ 3500 ≤ (ii : Int)) → (zm_size S a b pt).2 kk ii = S kk ii) ∧ True) := by
  refine zWalk.met (nL := 4) (ret := (some .int)) (cc := cX12_size) (by decide) rfl (Nat.le_of_ble_eq_true rfl) ?_
  intro pg en st mi ag bl mt cd ls CX hW hl
  have CX : zC pg st mi ag mt cd cX12_size 4 (some .int) RX12 wsX12_size := CX
  generalize hQ : MQ bl _ ag st 0 0 _ = Q
  have hX0 := CX.1
  have hB0 := CX.2.1
  have hl : lv_has ls 4 [(0, .ref o), (1, .int (zI a)), (2, .int (zI b)), (3, .int (zI pt))] := hl
  obtain ⟨H, eH⟩ : ∃ H, H = st.heap := ⟨_, rfl⟩
  obtain ⟨locs, eL⟩ : ∃ L : List Loc, L = [] := ⟨_, rfl⟩
  have hW : zW D (zT cI cJ cZ cP cS cM) L (zQ L sz) st (zMO cI cJ o S f) st.heap H locs := by rw [eH, eL]; exact hW
  suffices hgo : W pg l en ({ frames := 5, cells := 0, slots := 0, locals := 130 } : Room) st mi ag bl mt cd H locs 0 0 Q (F0 mi 0 ls []) by rw [eH, eL] at hgo; exact hgo
  clear eH eL
  have hpb := hI.s10
  skip
  refine lv_aload_n hX0 hB0 dX12_size_0 rfl (lv_at hl 0 rfl) ?_
  refine lv_iload_n hX0 hB0 dX12_size_1 rfl (lv_at hl 1 rfl) ?_
  refine lv_iload_n hX0 hB0 dX12_size_2 rfl (lv_at hl 2 rfl) ?_
  refine lv_iload_n hX0 hB0 dX12_size_3 rfl (lv_at hl 3 rfl) ?_
  refine z_calli hW (va_runV (C := RX12) (As := [.int (zI a), .int (zI b), .int (zI pt)]) (rest := []) CX.fix (zk_isAsked l o S a b pt hI (by constructor <;> omega) (by constructor <;> omega) (by constructor <;> omega)) (cwV 3 CX.fix.2.2.2.2 gX12_size_X12_isAsked rfl rfl rfl (by decide +kernel) ⟨Nat.le_of_ble_eq_true rfl, Nat.le_of_ble_eq_true rfl⟩) (z_preV CX hW (r := (RX12, TX12, 37)) zMO_0 rfl) rfl rfl hl.1 rfl (lv_room (Nat.le_of_ble_eq_true rfl)) dX12_size_4 ⟨Nat.zero_le _, Nat.zero_le _⟩) (fun z4 gn H locs hok hW => ?_)
  obtain ⟨hz4, hg, hq4⟩ := hok
  rw [hg] at hW
  clear hg
  have e4 : zm_isAsked S a b pt = z4 := hz4.symm
  clear hz4
  refine z_if_ne (tgt := 12) CX dX12_size_7 (by decide) (by constructor <;> omega) (fun c_7 => ?_) (fun c_7 => ?_)
  ·
    refine lv_aload_n hX0 hB0 dX12_size_12 rfl (lv_at hl 0 rfl) ?_
    refine lv_aload_n hX0 hB0 dX12_size_13 rfl (lv_at hl 0 rfl) ?_
    refine z_get (Cn := RX12) (T := TX12) (N := 37) CX hW (v := .ref (o + 16)) zMO_0 rfl (fun w h => List.mem_cons_of_mem _ (List.mem_append_right _ h)) 30 (by decide) (List.mem_of_getElem? (i := 1) rfl) rfl rfl dX12_size_14 ?_
    refine lv_iload_n hX0 hB0 dX12_size_17 rfl (lv_at hl 1 rfl) ?_
    refine lv_iload_n hX0 hB0 dX12_size_18 rfl (lv_at hl 3 rfl) ?_
    refine z_callv hW (va_runV (C := RX12) (As := [.ref (o + 16), .int (zI a), .int (zI pt)]) (rest := []) CX.fix (zk_laysLong_f l o S a pt hI (by constructor <;> omega) (by constructor <;> omega)) (cwV 3 CX.fix.2.2.2.2 gX12_size_X12_laysLong rfl rfl rfl (by decide +kernel) ⟨Nat.le_of_ble_eq_true rfl, Nat.le_of_ble_eq_true rfl⟩) (z_preV CX hW (r := (RX12, TX12, 37)) zMO_0 rfl) rfl rfl hl.1 rfl (lv_room (Nat.le_of_ble_eq_true rfl)) dX12_size_19 ⟨Nat.zero_le _, Nat.zero_le _⟩) (fun gn H locs hok hW => ?_)
    obtain ⟨hg, hI19, hf19, hq19⟩ := hok
    obtain ⟨S19, e19⟩ : ∃ q, zm_laysLong_f S a pt = q := ⟨_, rfl⟩
    rw [e19] at hg hI19 hf19
    have t19_24 : S19 0 24 = S 0 24 := hf19 0 24 (by omega)
    skip
    try rw [e19] at hq19
    rw [hg] at hW
    clear hg
    refine lv_aload_n hX0 hB0 dX12_size_22 rfl (lv_at hl 0 rfl) ?_
    refine lv_aload_n hX0 hB0 dX12_size_23 rfl (lv_at hl 0 rfl) ?_
    refine z_get (Cn := RX12) (T := TX12) (N := 37) CX hW (v := .ref (o + 17)) zMO_0 rfl (fun w h => List.mem_cons_of_mem _ (List.mem_append_right _ h)) 31 (by decide) (List.mem_of_getElem? (i := 2) rfl) rfl rfl dX12_size_24 ?_
    refine lv_iload_n hX0 hB0 dX12_size_27 rfl (lv_at hl 2 rfl) ?_
    refine lv_iload_n hX0 hB0 dX12_size_28 rfl (lv_at hl 3 rfl) ?_
    refine z_callv hW (va_runV (C := RX12) (As := [.ref (o + 17), .int (zI b), .int (zI pt)]) (rest := []) CX.fix (zk_laysLong_g l o S19 b pt hI19 (by constructor <;> omega) (by constructor <;> omega)) (cwV 3 CX.fix.2.2.2.2 gX12_size_X12_laysLong rfl rfl rfl (by decide +kernel) ⟨Nat.le_of_ble_eq_true rfl, Nat.le_of_ble_eq_true rfl⟩) (z_preV CX hW (r := (RX12, TX12, 37)) zMO_0 rfl) rfl rfl hl.1 rfl (lv_room (Nat.le_of_ble_eq_true rfl)) dX12_size_29 ⟨Nat.zero_le _, Nat.zero_le _⟩) (fun gn H locs hok hW => ?_)
    obtain ⟨hg, hI29, hf29, hq29⟩ := hok
    obtain ⟨S29, e29⟩ : ∃ q, zm_laysLong_g S19 b pt = q := ⟨_, rfl⟩
    rw [e29] at hg hI29 hf29
    have t29_24 : S29 0 24 = S19 0 24 := hf29 0 24 (by omega)
    skip
    try rw [e29] at hq29
    rw [hg] at hW
    clear hg
    refine lv_aload_n hX0 hB0 dX12_size_32 rfl (lv_at hl 0 rfl) ?_
    refine lv_sipush (v := zI 153) hX0 hB0 dX12_size_33 (by decide) ?_
    refine z_callv hW (va_runV (C := RX12) (As := [.int (zI 153)]) (rest := []) CX.fix (zk_beginsPile l o S29 153 hI29 (by constructor <;> omega)) (cwV 1 CX.fix.2.2.2.2 gX12_size_X12_beginsPile rfl rfl rfl (by decide +kernel) ⟨Nat.le_of_ble_eq_true rfl, Nat.le_of_ble_eq_true rfl⟩) (z_preV CX hW (r := (RX12, TX12, 37)) zMO_0 rfl) rfl rfl hl.1 rfl (lv_room (Nat.le_of_ble_eq_true rfl)) dX12_size_36 ⟨Nat.zero_le _, Nat.zero_le _⟩) (fun gn H locs hok hW => ?_)
    obtain ⟨hg, hI36, hf36, hq36⟩ := hok
    obtain ⟨S36, e36⟩ : ∃ q, zm_beginsPile S29 153 = q := ⟨_, rfl⟩
    rw [e36] at hg hI36 hf36
    skip
    try rw [e36] at hq36
    rw [hg] at hW
    clear hg
    refine lv_aload_n hX0 hB0 dX12_size_39 rfl (lv_at hl 0 rfl) ?_
    refine lv_aload_n hX0 hB0 dX12_size_40 rfl (lv_at hl 0 rfl) ?_
    refine z_get (Cn := RX12) (T := TX12) (N := 37) CX hW (v := .ref (o + 16)) zMO_0 rfl (fun w h => List.mem_cons_of_mem _ (List.mem_append_right _ h)) 30 (by decide) (List.mem_of_getElem? (i := 1) rfl) rfl rfl dX12_size_41 ?_
    refine z_callv hW (va_runV (C := RX12) (As := [.ref (o + 16)]) (rest := []) CX.fix (zk_pilesLocal_f l o S36  hI36 (by omega) (by omega)) (cwV 1 CX.fix.2.2.2.2 gX12_size_X12_pilesLocal rfl rfl rfl (by decide +kernel) ⟨Nat.le_of_ble_eq_true rfl, Nat.le_of_ble_eq_true rfl⟩) (z_preV CX hW (r := (RX12, TX12, 37)) zMO_0 rfl) rfl rfl hl.1 rfl (lv_room (Nat.le_of_ble_eq_true rfl)) dX12_size_44 ⟨Nat.zero_le _, Nat.zero_le _⟩) (fun gn H locs hok hW => ?_)
    obtain ⟨hg, hI44, hf44, hq44⟩ := hok
    obtain ⟨S44, e44⟩ : ∃ q, zm_pilesLocal_f S36 = q := ⟨_, rfl⟩
    rw [e44] at hg hI44 hf44
    have t44_24 : S44 0 24 = S36 0 24 := hf44 0 24 (by omega)
    skip
    try rw [e44] at hq44
    rw [hg] at hW
    clear hg
    refine lv_aload_n hX0 hB0 dX12_size_47 rfl (lv_at hl 0 rfl) ?_
    refine lv_aload_n hX0 hB0 dX12_size_48 rfl (lv_at hl 0 rfl) ?_
    refine z_get (Cn := RX12) (T := TX12) (N := 37) CX hW (v := .ref (o + 17)) zMO_0 rfl (fun w h => List.mem_cons_of_mem _ (List.mem_append_right _ h)) 31 (by decide) (List.mem_of_getElem? (i := 2) rfl) rfl rfl dX12_size_49 ?_
    refine z_callv hW (va_runV (C := RX12) (As := [.ref (o + 17)]) (rest := []) CX.fix (zk_pilesLocal_g l o S44  hI44 (by omega) (by omega)) (cwV 1 CX.fix.2.2.2.2 gX12_size_X12_pilesLocal rfl rfl rfl (by decide +kernel) ⟨Nat.le_of_ble_eq_true rfl, Nat.le_of_ble_eq_true rfl⟩) (z_preV CX hW (r := (RX12, TX12, 37)) zMO_0 rfl) rfl rfl hl.1 rfl (lv_room (Nat.le_of_ble_eq_true rfl)) dX12_size_52 ⟨Nat.zero_le _, Nat.zero_le _⟩) (fun gn H locs hok hW => ?_)
    obtain ⟨hg, hI52, hf52, hq52⟩ := hok
    obtain ⟨S52, e52⟩ : ∃ q, zm_pilesLocal_g S44 = q := ⟨_, rfl⟩
    rw [e52] at hg hI52 hf52
    have t52_24 : S52 0 24 = S44 0 24 := hf52 0 24 (by omega)
    skip
    try rw [e52] at hq52
    rw [hg] at hW
    clear hg
    refine lv_sipush (v := zI 153) hX0 hB0 dX12_size_55 (by decide) ?_
    refine lv_aload_n hX0 hB0 dX12_size_58 rfl (lv_at hl 0 rfl) ?_
    refine z_get (Cn := RX12) (T := TX12) (N := 37) CX hW (v := .int (zI (S52 0 23))) zMO_0 rfl (fun w h => List.mem_cons_of_mem _ (List.mem_append_right _ h)) 23 (by decide) (List.mem_of_getElem? (i := 3) rfl) rfl rfl dX12_size_59 ?_
    have hr59 := hI52.s23
    refine z_isub (z := 153 - (S52 0 23)) CX dX12_size_62 rfl ?_
    have hE : zm_size S a b pt = (153 - (S52 0 23), S52) := by unfold zm_size; exact zlet_e e4 (zif_f c_7 (zlet_e e19 (zlet_e e29 (zlet_e e36 (zlet_e e44 (zlet_e e52 rfl))))))
    have hFr : ∀ kk ii : Nat, ¬ (kk = 0 ∧ ii = 23) ∧ ¬ (kk = 0 ∧ ii = 24) ∧ ¬ (kk = 0 ∧ ii = 26) ∧ ¬ kk = 10 ∧ ¬ kk = 11 ∧ ¬ kk = 12 ∧ ¬ kk = 16 ∧ ¬ kk = 17 ∧ ¬ (kk = 3 ∧ 3500 ≤ (ii : Int)) → S52 kk ii = S kk ii := fun kk ii hk => (((((hf52 kk ii (by omega))).trans (hf44 kk ii (by omega))).trans (hf36 kk ii (by omega))).trans (hf29 kk ii (by omega))).trans (hf19 kk ii (by omega))
    rw [← hQ]
    exact z_iret (z := 153 - (S52 0 23)) CX hW (by rw [hE]; exact ⟨rfl, rfl, hI52, hFr, trivial⟩) rfl dX12_size_63
  ·
    refine lv_iconst (v := zI (-1)) hX0 hB0 dX12_size_10 rfl ?_
    have hE : zm_size S a b pt = (-1, S) := by unfold zm_size; exact zlet_e e4 (zif_t c_7 rfl)
    have hFr : ∀ kk ii : Nat, ¬ (kk = 0 ∧ ii = 23) ∧ ¬ (kk = 0 ∧ ii = 24) ∧ ¬ (kk = 0 ∧ ii = 26) ∧ ¬ kk = 10 ∧ ¬ kk = 11 ∧ ¬ kk = 12 ∧ ¬ kk = 16 ∧ ¬ kk = 17 ∧ ¬ (kk = 3 ∧ 3500 ≤ (ii : Int)) → S kk ii = S kk ii := fun kk ii hk => rfl
    rw [← hQ]
    exact z_iret (z := -1) CX hW (by rw [hE]; exact ⟨rfl, rfl, hI, hFr, trivial⟩) rfl dX12_size_11
def zm_pilesForm_L47 (cv : Int) (i9 : Int) (i20 : Int) (i38 : Int) : Int → zS2 → zS2 := fun i47 s47 => (fun (S47 : zS2) => zlet (zm_longAt (i9 + i38) (i20 + i47)) (fun z70 => zlet (zm_cell S47 cv i38 i47) (fun z79 => zlet (za S47 12 z70.toNat z79) (fun S82 => S82)))) s47
def zm_pilesForm_L38 (cv : Int) (z2 : Int) (i9 : Int) (i20 : Int) : Int → zS2 → zS2 := fun i38 s38 => (fun (S38 : zS2) => zlet (zfor (zm_pilesForm_L47 cv i9 i20 i38) 0 S38 ((z2 - i38) + 1 - 0).toNat) (fun S47 => S47)) s38
def zm_pilesForm_L20 (cv : Int) (z2 : Int) (i9 : Int) : Int → zS2 → zS2 := fun i20 s20 => (fun (S20 : zS2) => zlet (zm_emptiesVector S20) (fun S32 => zlet (zfor (zm_pilesForm_L38 cv z2 i9 i20) 0 S32 (z2 + 1 - 0).toNat) (fun S38 => zlet (zm_piles S38) (fun q101 => (fun (z101 : Int) (S101 : zS2) => (if z101 = 0 then zlet (za S101 0 26 ((S38 0 26) + 0)) (fun S113 => S113) else zlet (za S101 0 26 ((S38 0 26) + 1)) (fun S113 => S113))) q101.1 q101.2)))) s20
def zm_pilesForm_L9 (cv : Int) (dd : Int) (z2 : Int) : Int → zS2 → zS2 := fun i9 s9 => (fun (S9 : zS2) => zlet (zfor (zm_pilesForm_L20 cv z2 i9) 0 S9 ((dd - z2 - i9) + 1 - 0).toNat) (fun S20 => S20)) s9
def zm_pilesForm (S : zS2) (cv : Int) (dd : Int) : zS2 := zlet (zm_degreeOf S cv) (fun z2 => zlet (zfor (zm_pilesForm_L9 cv dd z2) 0 S ((dd - z2) + 1 - 0).toNat) (fun S9 => S9))
set_option maxRecDepth 100000 in
set_option maxHeartbeats 4000000 in
theorem zk_pilesForm (l : Launch) {D : va_G} {cI cJ cZ cP cS cM : ClassId} {L : List Nat} {sz : Nat} {f : Nat → va_E} (o : Nat) (S : zS2) (cv : Int) (dd : Int) (hI : mI S) (hcv : 0 ≤ cv ∧ cv ≤ 5) (hdd : 0 ≤ dd ∧ dd ≤ 24) (hpv : S 0 23 = zcnt (S 11) (S 0 24).toNat) (hw : S 0 24 = zmt dd) : zMv l yX12_pilesForm wsX12_pilesForm 4 93 D (zT cI cJ cZ cP cS cM) L sz (zMO cI cJ o S f) [.ref o, .int (zI cv), .int (zI dd)] (fun gv => gv = zMO cI cJ o (zm_pilesForm S cv dd) f ∧ mI (zm_pilesForm S cv dd) ∧ (∀ kk ii : Nat, ¬ (kk = 0 ∧ ii = 23) ∧ ¬ (kk = 0 ∧ ii = 26) ∧ ¬ kk = 10 ∧ ¬ kk = 11 ∧ ¬ kk = 12 → (zm_pilesForm S cv dd) kk ii = S kk ii) ∧ (zm_pilesForm S cv dd) 0 23 = zcnt ((zm_pilesForm S cv dd) 11) ((zm_pilesForm S cv dd) 0 24).toNat) := by
  refine zWalk.met (nL := 8) (ret := none) (cc := cX12_pilesForm) (by decide) rfl (Nat.le_of_ble_eq_true rfl) ?_
  intro pg en st mi ag bl mt cd ls CX hW hl
  have CX : zC pg st mi ag mt cd cX12_pilesForm 8 none RX12 wsX12_pilesForm := CX
  generalize hQ : MQ bl _ ag st 0 0 _ = Q
  have hX0 := CX.1
  have hB0 := CX.2.1
  have hl : lv_has ls 8 [(0, .ref o), (1, .int (zI cv)), (2, .int (zI dd))] := hl
  obtain ⟨H, eH⟩ : ∃ H, H = st.heap := ⟨_, rfl⟩
  obtain ⟨locs, eL⟩ : ∃ L : List Loc, L = [] := ⟨_, rfl⟩
  have hW : zW D (zT cI cJ cZ cP cS cM) L (zQ L sz) st (zMO cI cJ o S f) st.heap H locs := by rw [eH, eL]; exact hW
  suffices hgo : W pg l en ({ frames := 4, cells := 0, slots := 0, locals := 93 } : Room) st mi ag bl mt cd H locs 0 0 Q (F0 mi 0 ls []) by rw [eH, eL] at hgo; exact hgo
  clear eH eL
  have hpb := hI.s10
  refine lv_aload_n hX0 hB0 dX12_pilesForm_0 rfl (lv_at hl 0 rfl) ?_
  refine lv_iload_n hX0 hB0 dX12_pilesForm_1 rfl (lv_at hl 1 rfl) ?_
  refine z_calli hW (va_runV (C := RX12) (As := [.int (zI cv)]) (rest := []) CX.fix (zk_degreeOf l o S cv hI (by constructor <;> omega)) (cwV 1 CX.fix.2.2.2.2 gX12_pilesForm_X12_degreeOf rfl rfl rfl (by decide +kernel) ⟨Nat.le_of_ble_eq_true rfl, Nat.le_of_ble_eq_true rfl⟩) (z_preV CX hW (r := (RX12, TX12, 37)) zMO_0 rfl) rfl rfl hl.1 rfl (lv_room (Nat.le_of_ble_eq_true rfl)) dX12_pilesForm_2 ⟨Nat.zero_le _, Nat.zero_le _⟩) (fun z2 gn H locs hok hW => ?_)
  obtain ⟨hz2, hg, hq2⟩ := hok
  rw [hg] at hW
  clear hg
  have e2 : zm_degreeOf S cv = z2 := hz2.symm
  clear hz2
  refine lv_istore_n (lv' := [(3, .int (zI z2)), (0, .ref o), (1, .int (zI cv)), (2, .int (zI dd))]) hX0 hB0 dX12_pilesForm_5 rfl hl (by decide) rfl (fun ls hl => ?_)
  refine lv_iconst (v := zI 0) hX0 hB0 dX12_pilesForm_6 rfl ?_
  refine lv_istore (lv' := [(4, .int (zI 0)), (3, .int (zI z2)), (0, .ref o), (1, .int (zI cv)), (2, .int (zI dd))]) hX0 hB0 dX12_pilesForm_7 hl (by decide) rfl (fun ls hl => ?_)
  have hL9 : ∀ (fu : Nat) (i9 : Int) (S9 : zS2), ((0 ≤ i9 ∧ (i9 ≤ dd - z2 + 1 ∨ i9 = 0)) ∧ zfor (zm_pilesForm_L9 cv dd z2) 0 S (i9 - 0).toNat = S9 ∧ mI S9 ∧ (∀ kk ii : Nat, ¬ (kk = 0 ∧ ii = 23) ∧ ¬ (kk = 0 ∧ ii = 26) ∧ ¬ kk = 10 ∧ ¬ kk = 11 ∧ ¬ kk = 12 → S9 kk ii = S kk ii) ∧ (S9 0 23 = zcnt (S9 11) (S9 0 24).toNat)) → ((dd - z2) + 1 - i9).toNat < fu → ∀ (H : Heap) (locs : List Loc) (ls : Array Slot), zW D (zT cI cJ cZ cP cS cM) L (zQ L sz) st (zMO cI cJ o S9 f) st.heap H locs → lv_has ls 8 [(4, .int (zI i9)), (3, .int (zI z2)), (0, .ref o), (1, .int (zI cv)), (2, .int (zI dd))] → W pg l en ({ frames := 4, cells := 0, slots := 0, locals := 93 } : Room) st mi ag bl mt cd H locs 0 0 Q (F0 mi 9 ls []) := by
    intro fu
    induction fu with
    | zero => intro i9 S9 _ hfu; exact absurd hfu (Nat.not_lt_zero _)
    | succ fu ih9 =>
      intro i9 S9 hinv hfu9 H locs ls hW hl
      obtain ⟨⟨hlo9, hhi9⟩, hz9, hI9, hf9, hv9⟩ := hinv
      have hp9 := hI9.s10
      have t9_24 : S9 0 24 = S 0 24 := hf9 0 24 (by omega)
      refine lv_iload hX0 hB0 dX12_pilesForm_9 (lv_at hl 0 rfl) ?_
      refine lv_iload_n hX0 hB0 dX12_pilesForm_11 rfl (lv_at hl 4 rfl) ?_
      refine lv_iload_n hX0 hB0 dX12_pilesForm_12 rfl (lv_at hl 1 rfl) ?_
      refine z_isub (z := dd - z2) CX dX12_pilesForm_13 rfl ?_
      refine z_icmp_gt (tgt := 128) CX dX12_pilesForm_14 (by decide) (by constructor <;> omega) (by constructor <;> omega) (fun c_14 => ?_) (fun c_14 => ?_)
      ·
        have e9 : zfor (zm_pilesForm_L9 cv dd z2) 0 S ((dd - z2) + 1 - 0).toNat = S9 := by rw [show ((dd - z2) + 1 - 0).toNat = (i9 - 0).toNat by omega]; exact hz9
        have hE : zm_pilesForm S cv dd = S9 := by unfold zm_pilesForm; exact zlet_e e2 (zlet_e e9 rfl)
        have hFr : ∀ kk ii : Nat, ¬ (kk = 0 ∧ ii = 23) ∧ ¬ (kk = 0 ∧ ii = 26) ∧ ¬ kk = 10 ∧ ¬ kk = 11 ∧ ¬ kk = 12 → S9 kk ii = S kk ii := fun kk ii hk => (hf9 kk ii (by omega))
        rw [← hQ]
        exact z_vret CX hW (by rw [hE]; exact ⟨rfl, hI9, hFr, (show S9 0 23 = zcnt (S9 11) (S9 0 24).toNat from by omega)⟩) dX12_pilesForm_128
      ·
        refine lv_iconst (v := zI 0) hX0 hB0 dX12_pilesForm_17 rfl ?_
        refine lv_istore (lv' := [(5, .int (zI 0)), (4, .int (zI i9)), (3, .int (zI z2)), (0, .ref o), (1, .int (zI cv)), (2, .int (zI dd))]) hX0 hB0 dX12_pilesForm_18 hl (by decide) rfl (fun ls hl => ?_)
        have hL20 : ∀ (fu : Nat) (i20 : Int) (S20 : zS2), ((0 ≤ i20 ∧ i20 ≤ dd - z2 - i9 + 1) ∧ zfor (zm_pilesForm_L20 cv z2 i9) 0 S9 (i20 - 0).toNat = S20 ∧ mI S20 ∧ (∀ kk ii : Nat, ¬ (kk = 0 ∧ ii = 23) ∧ ¬ (kk = 0 ∧ ii = 26) ∧ ¬ kk = 10 ∧ ¬ kk = 11 ∧ ¬ kk = 12 → S20 kk ii = S9 kk ii) ∧ (S20 0 23 = zcnt (S20 11) (S20 0 24).toNat)) → ((dd - z2 - i9) + 1 - i20).toNat < fu → ∀ (H : Heap) (locs : List Loc) (ls : Array Slot), zW D (zT cI cJ cZ cP cS cM) L (zQ L sz) st (zMO cI cJ o S20 f) st.heap H locs → lv_has ls 8 [(5, .int (zI i20)), (4, .int (zI i9)), (3, .int (zI z2)), (0, .ref o), (1, .int (zI cv)), (2, .int (zI dd))] → W pg l en ({ frames := 4, cells := 0, slots := 0, locals := 93 } : Room) st mi ag bl mt cd H locs 0 0 Q (F0 mi 20 ls []) := by
          intro fu
          induction fu with
          | zero => intro i20 S20 _ hfu; exact absurd hfu (Nat.not_lt_zero _)
          | succ fu ih20 =>
            intro i20 S20 hinv hfu20 H locs ls hW hl
            obtain ⟨⟨hlo20, hhi20⟩, hz20, hI20, hf20, hv20⟩ := hinv
            have hp20 := hI20.s10
            have t20_24 : S20 0 24 = S9 0 24 := hf20 0 24 (by omega)
            refine lv_iload hX0 hB0 dX12_pilesForm_20 (lv_at hl 1 rfl) ?_
            refine lv_iload hX0 hB0 dX12_pilesForm_22 (lv_at hl 0 rfl) ?_
            refine z_iadd (z := i9 + i20) CX dX12_pilesForm_24 rfl ?_
            refine lv_iload_n hX0 hB0 dX12_pilesForm_25 rfl (lv_at hl 5 rfl) ?_
            refine lv_iload_n hX0 hB0 dX12_pilesForm_26 rfl (lv_at hl 2 rfl) ?_
            refine z_isub (z := dd - z2) CX dX12_pilesForm_27 rfl ?_
            refine z_icmp_gt (tgt := 122) CX dX12_pilesForm_28 (by decide) (by constructor <;> omega) (by constructor <;> omega) (fun c_28 => ?_) (fun c_28 => ?_)
            ·
              have e20 : zfor (zm_pilesForm_L20 cv z2 i9) 0 S9 ((dd - z2 - i9) + 1 - 0).toNat = S20 := by rw [show ((dd - z2 - i9) + 1 - 0).toNat = (i20 - 0).toNat by omega]; exact hz20
              refine lv_iinc (v := zI (i9 + 1)) (lv' := [(4, .int (zI (i9 + 1))), (5, .int (zI i20)), (3, .int (zI z2)), (0, .ref o), (1, .int (zI cv)), (2, .int (zI dd))]) hX0 hB0 dX12_pilesForm_122 hl (k := 1) rfl (zI_add _ _) (by decide) rfl (fun ls hl => ?_)
              refine lv_goto (tgt := 9) hX0 hB0 dX12_pilesForm_125 (by decide) ?_
              exact ih9 (i9 + 1) S20 ⟨⟨by omega, by omega⟩, (zfor_s _ _ _ (by omega)).trans ((congrArg (zm_pilesForm_L9 cv dd z2 i9) hz9).trans (by unfold zm_pilesForm_L9; exact zlet_e e20 rfl)), hI20, fun kk ii hk => ((hf20 kk ii (by omega))).trans (hf9 kk ii (by omega)), hv20⟩ (by omega) H locs ls hW (lv_sub hl [0, 2, 3, 4, 5] rfl)
            ·
              refine lv_aload_n hX0 hB0 dX12_pilesForm_31 rfl (lv_at hl 3 rfl) ?_
              refine z_callv hW (va_runV (C := RX12) (As := []) (rest := []) CX.fix (zk_emptiesVector l o S20  hI20 ) (cwV 0 CX.fix.2.2.2.2 gX12_pilesForm_X12_emptiesVector rfl rfl rfl (by decide +kernel) ⟨Nat.le_of_ble_eq_true rfl, Nat.le_of_ble_eq_true rfl⟩) (z_preV CX hW (r := (RX12, TX12, 37)) zMO_0 rfl) rfl rfl hl.1 rfl (lv_room (Nat.le_of_ble_eq_true rfl)) dX12_pilesForm_32 ⟨Nat.zero_le _, Nat.zero_le _⟩) (fun gn H locs hok hW => ?_)
              obtain ⟨hg, hI32, hf32, hq32⟩ := hok
              obtain ⟨S32, e32⟩ : ∃ q, zm_emptiesVector S20 = q := ⟨_, rfl⟩
              rw [e32] at hg hI32 hf32
              have t32_24 : S32 0 24 = S20 0 24 := hf32 0 24 (by omega)
              skip
              try rw [e32] at hq32
              rw [hg] at hW
              clear hg
              refine lv_iconst (v := zI 0) hX0 hB0 dX12_pilesForm_35 rfl ?_
              refine lv_istore (lv' := [(6, .int (zI 0)), (5, .int (zI i20)), (4, .int (zI i9)), (3, .int (zI z2)), (0, .ref o), (1, .int (zI cv)), (2, .int (zI dd))]) hX0 hB0 dX12_pilesForm_36 hl (by decide) rfl (fun ls hl => ?_)
              have hL38 : ∀ (fu : Nat) (i38 : Int) (S38 : zS2), ((0 ≤ i38 ∧ i38 ≤ z2 + 1) ∧ zfor (zm_pilesForm_L38 cv z2 i9 i20) 0 S32 (i38 - 0).toNat = S38 ∧ mI S38 ∧ (∀ kk ii : Nat, ¬ kk = 12 → S38 kk ii = S32 kk ii)) → (z2 + 1 - i38).toNat < fu → ∀ (H : Heap) (locs : List Loc) (ls : Array Slot), zW D (zT cI cJ cZ cP cS cM) L (zQ L sz) st (zMO cI cJ o S38 f) st.heap H locs → lv_has ls 8 [(6, .int (zI i38)), (5, .int (zI i20)), (4, .int (zI i9)), (3, .int (zI z2)), (0, .ref o), (1, .int (zI cv)), (2, .int (zI dd))] → W pg l en ({ frames := 4, cells := 0, slots := 0, locals := 93 } : Room) st mi ag bl mt cd H locs 0 0 Q (F0 mi 38 ls []) := by
                intro fu
                induction fu with
                | zero => intro i38 S38 _ hfu; exact absurd hfu (Nat.not_lt_zero _)
                | succ fu ih38 =>
                  intro i38 S38 hinv hfu38 H locs ls hW hl
                  obtain ⟨⟨hlo38, hhi38⟩, hz38, hI38, hf38⟩ := hinv
                  have hp38 := hI38.s10
                  have t38_24 : S38 0 24 = S32 0 24 := hf38 0 24 (by omega)
                  refine lv_iload hX0 hB0 dX12_pilesForm_38 (lv_at hl 0 rfl) ?_
                  refine lv_iload_n hX0 hB0 dX12_pilesForm_40 rfl (lv_at hl 3 rfl) ?_
                  refine z_icmp_gt (tgt := 95) CX dX12_pilesForm_41 (by decide) (by constructor <;> omega) (by constructor <;> omega) (fun c_41 => ?_) (fun c_41 => ?_)
                  ·
                    have e38 : zfor (zm_pilesForm_L38 cv z2 i9 i20) 0 S32 (z2 + 1 - 0).toNat = S38 := by rw [show (z2 + 1 - 0).toNat = (i38 - 0).toNat by omega]; exact hz38
                    refine lv_aload_n hX0 hB0 dX12_pilesForm_95 rfl (lv_at hl 4 rfl) ?_
                    refine lv_dup hX0 hB0 dX12_pilesForm_96 rfl ?_
                    refine z_get (Cn := RX12) (T := TX12) (N := 37) CX hW (v := .int (zI (S38 0 26))) zMO_0 rfl (fun w h => List.mem_cons_of_mem _ (List.mem_append_right _ h)) 26 (by decide) (List.mem_of_getElem? (i := 2) rfl) rfl rfl dX12_pilesForm_97 ?_
                    refine lv_aload_n hX0 hB0 dX12_pilesForm_100 rfl (lv_at hl 4 rfl) ?_
                    refine z_calli hW (va_runV (C := RX12) (As := []) (rest := [.int (zI (S38 0 26)), .ref o]) CX.fix (zk_piles l o S38  hI38 (by rw [show S38 11 = S20 11 from funext (fun ii => ((hf38 11 ii (by omega))).trans (hf32 11 ii (by omega))), show S38 0 23 = S20 0 23 from ((hf38 0 23 (by omega))).trans (hf32 0 23 (by omega)), show S38 0 24 = S20 0 24 from ((hf38 0 24 (by omega))).trans (hf32 0 24 (by omega))]; exact hv20)) (cwV 0 CX.fix.2.2.2.2 gX12_pilesForm_X12_piles rfl rfl rfl (by decide +kernel) ⟨Nat.le_of_ble_eq_true rfl, Nat.le_of_ble_eq_true rfl⟩) (z_preV CX hW (r := (RX12, TX12, 37)) zMO_0 rfl) rfl rfl hl.1 rfl (lv_room (Nat.le_of_ble_eq_true rfl)) dX12_pilesForm_101 ⟨Nat.zero_le _, Nat.zero_le _⟩) (fun z101 gn H locs hok hW => ?_)
                    obtain ⟨hz101, hg, hI101, hf101, hq101⟩ := hok
                    obtain ⟨S101, hS101⟩ : ∃ q, q = (zm_piles S38).2 := ⟨_, rfl⟩
                    rw [← hS101] at hg hI101 hf101
                    have t101_24 : S101 0 24 = S38 0 24 := hf101 0 24 (by omega)
                    skip
                    try rw [← hS101] at hq101
                    rw [hg] at hW
                    clear hg
                    have e101 : zm_piles S38 = (z101, S101) := Prod.ext hz101.symm hS101.symm
                    clear hz101 hS101
                    refine z_if_eq (tgt := 111) CX dX12_pilesForm_104 (by decide) (by constructor <;> omega) (fun c_104 => ?_) (fun c_104 => ?_)
                    ·
                      refine lv_iconst (v := zI 0) hX0 hB0 dX12_pilesForm_111 rfl ?_
                      refine z_iadd (z := (S38 0 26) + 0) CX dX12_pilesForm_112 rfl ?_
                      obtain ⟨S113, e113⟩ : ∃ q, za S101 0 26 ((S38 0 26) + 0) = q := ⟨_, rfl⟩
                      refine z_put (Cn := RX12) (T := TX12) (N := 37) CX hW (v := .int (zI ((S38 0 26) + 0))) zMO_0 rfl (fun w h => List.mem_cons_of_mem _ (List.mem_append_right _ h)) tyX12 tyX12_ok nmX12 26 (by decide) (List.mem_of_getElem? (i := 2) rfl) rfl rfl rfl rfl (Nat.le_of_ble_eq_true rfl) (g := zMO cI cJ o S113 f) (zMO_s26.trans (by rw [e113])) dX12_pilesForm_113 (fun H locs hW => ?_)
                      have hI113 : mI S113 := e113 ▸ hI101.v26 
                      have t113_24 : S113 0 24 = S101 0 24 := by rw [← e113]; exact za_ne (by omega)
                      refine lv_iinc (v := zI (i20 + 1)) (lv' := [(5, .int (zI (i20 + 1))), (6, .int (zI i38)), (4, .int (zI i9)), (3, .int (zI z2)), (0, .ref o), (1, .int (zI cv)), (2, .int (zI dd))]) hX0 hB0 dX12_pilesForm_116 hl (k := 1) rfl (zI_add _ _) (by decide) rfl (fun ls hl => ?_)
                      refine lv_goto (tgt := 20) hX0 hB0 dX12_pilesForm_119 (by decide) ?_
                      exact ih20 (i20 + 1) S113 ⟨⟨by omega, by omega⟩, (zfor_s _ _ _ (by omega)).trans ((congrArg (zm_pilesForm_L20 cv z2 i9 i20) hz20).trans (by unfold zm_pilesForm_L20; exact zlet_e e32 (zlet_e e38 (zlet_e e101 (zif_t c_104 (zlet_e e113 rfl)))))), hI113, fun kk ii hk => (((((show S113 kk ii = S101 kk ii from by rw [← e113]; exact za_ne (by omega))).trans (hf101 kk ii (by omega))).trans (hf38 kk ii (by omega))).trans (hf32 kk ii (by omega))).trans (hf20 kk ii (by omega)), (by rw [show S113 11 = S101 11 from funext (fun ii => (show S113 11 ii = S101 11 ii from by rw [← e113]; exact za_ne (by omega))), show S113 0 23 = S101 0 23 from (show S113 0 23 = S101 0 23 from by rw [← e113]; exact za_ne (by omega)), show S113 0 24 = S101 0 24 from (show S113 0 24 = S101 0 24 from by rw [← e113]; exact za_ne (by omega))]; exact hq101.2.2)⟩ (by omega) H locs ls hW (lv_sub hl [0, 2, 3, 4, 5, 6] rfl)
                    ·
                      refine lv_iconst (v := zI 1) hX0 hB0 dX12_pilesForm_107 rfl ?_
                      refine lv_goto (tgt := 112) hX0 hB0 dX12_pilesForm_108 (by decide) ?_
                      refine z_iadd (z := (S38 0 26) + 1) CX dX12_pilesForm_112 rfl ?_
                      obtain ⟨S113, e113⟩ : ∃ q, za S101 0 26 ((S38 0 26) + 1) = q := ⟨_, rfl⟩
                      refine z_put (Cn := RX12) (T := TX12) (N := 37) CX hW (v := .int (zI ((S38 0 26) + 1))) zMO_0 rfl (fun w h => List.mem_cons_of_mem _ (List.mem_append_right _ h)) tyX12 tyX12_ok nmX12 26 (by decide) (List.mem_of_getElem? (i := 2) rfl) rfl rfl rfl rfl (Nat.le_of_ble_eq_true rfl) (g := zMO cI cJ o S113 f) (zMO_s26.trans (by rw [e113])) dX12_pilesForm_113 (fun H locs hW => ?_)
                      have hI113 : mI S113 := e113 ▸ hI101.v26 
                      have t113_24 : S113 0 24 = S101 0 24 := by rw [← e113]; exact za_ne (by omega)
                      refine lv_iinc (v := zI (i20 + 1)) (lv' := [(5, .int (zI (i20 + 1))), (6, .int (zI i38)), (4, .int (zI i9)), (3, .int (zI z2)), (0, .ref o), (1, .int (zI cv)), (2, .int (zI dd))]) hX0 hB0 dX12_pilesForm_116 hl (k := 1) rfl (zI_add _ _) (by decide) rfl (fun ls hl => ?_)
                      refine lv_goto (tgt := 20) hX0 hB0 dX12_pilesForm_119 (by decide) ?_
                      exact ih20 (i20 + 1) S113 ⟨⟨by omega, by omega⟩, (zfor_s _ _ _ (by omega)).trans ((congrArg (zm_pilesForm_L20 cv z2 i9 i20) hz20).trans (by unfold zm_pilesForm_L20; exact zlet_e e32 (zlet_e e38 (zlet_e e101 (zif_f c_104 (zlet_e e113 rfl)))))), hI113, fun kk ii hk => (((((show S113 kk ii = S101 kk ii from by rw [← e113]; exact za_ne (by omega))).trans (hf101 kk ii (by omega))).trans (hf38 kk ii (by omega))).trans (hf32 kk ii (by omega))).trans (hf20 kk ii (by omega)), (by rw [show S113 11 = S101 11 from funext (fun ii => (show S113 11 ii = S101 11 ii from by rw [← e113]; exact za_ne (by omega))), show S113 0 23 = S101 0 23 from (show S113 0 23 = S101 0 23 from by rw [← e113]; exact za_ne (by omega)), show S113 0 24 = S101 0 24 from (show S113 0 24 = S101 0 24 from by rw [← e113]; exact za_ne (by omega))]; exact hq101.2.2)⟩ (by omega) H locs ls hW (lv_sub hl [0, 2, 3, 4, 5, 6] rfl)
                  ·
                    refine lv_iconst (v := zI 0) hX0 hB0 dX12_pilesForm_44 rfl ?_
                    refine lv_istore (lv' := [(7, .int (zI 0)), (6, .int (zI i38)), (5, .int (zI i20)), (4, .int (zI i9)), (3, .int (zI z2)), (0, .ref o), (1, .int (zI cv)), (2, .int (zI dd))]) hX0 hB0 dX12_pilesForm_45 hl (by decide) rfl (fun ls hl => ?_)
                    have hL47 : ∀ (fu : Nat) (i47 : Int) (S47 : zS2), ((0 ≤ i47 ∧ i47 ≤ z2 - i38 + 1) ∧ zfor (zm_pilesForm_L47 cv i9 i20 i38) 0 S38 (i47 - 0).toNat = S47 ∧ mI S47 ∧ (∀ kk ii : Nat, ¬ kk = 12 → S47 kk ii = S38 kk ii)) → ((z2 - i38) + 1 - i47).toNat < fu → ∀ (H : Heap) (locs : List Loc) (ls : Array Slot), zW D (zT cI cJ cZ cP cS cM) L (zQ L sz) st (zMO cI cJ o S47 f) st.heap H locs → lv_has ls 8 [(7, .int (zI i47)), (6, .int (zI i38)), (5, .int (zI i20)), (4, .int (zI i9)), (3, .int (zI z2)), (0, .ref o), (1, .int (zI cv)), (2, .int (zI dd))] → W pg l en ({ frames := 4, cells := 0, slots := 0, locals := 93 } : Room) st mi ag bl mt cd H locs 0 0 Q (F0 mi 47 ls []) := by
                      intro fu
                      induction fu with
                      | zero => intro i47 S47 _ hfu; exact absurd hfu (Nat.not_lt_zero _)
                      | succ fu ih47 =>
                        intro i47 S47 hinv hfu47 H locs ls hW hl
                        obtain ⟨⟨hlo47, hhi47⟩, hz47, hI47, hf47⟩ := hinv
                        have hp47 := hI47.s10
                        have t47_24 : S47 0 24 = S38 0 24 := hf47 0 24 (by omega)
                        refine lv_iload hX0 hB0 dX12_pilesForm_47 (lv_at hl 1 rfl) ?_
                        refine lv_iload hX0 hB0 dX12_pilesForm_49 (lv_at hl 0 rfl) ?_
                        refine z_iadd (z := i38 + i47) CX dX12_pilesForm_51 rfl ?_
                        refine lv_iload_n hX0 hB0 dX12_pilesForm_52 rfl (lv_at hl 4 rfl) ?_
                        refine z_icmp_gt (tgt := 89) CX dX12_pilesForm_53 (by decide) (by constructor <;> omega) (by constructor <;> omega) (fun c_53 => ?_) (fun c_53 => ?_)
                        ·
                          have e47 : zfor (zm_pilesForm_L47 cv i9 i20 i38) 0 S38 ((z2 - i38) + 1 - 0).toNat = S47 := by rw [show ((z2 - i38) + 1 - 0).toNat = (i47 - 0).toNat by omega]; exact hz47
                          refine lv_iinc (v := zI (i38 + 1)) (lv' := [(6, .int (zI (i38 + 1))), (7, .int (zI i47)), (5, .int (zI i20)), (4, .int (zI i9)), (3, .int (zI z2)), (0, .ref o), (1, .int (zI cv)), (2, .int (zI dd))]) hX0 hB0 dX12_pilesForm_89 hl (k := 1) rfl (zI_add _ _) (by decide) rfl (fun ls hl => ?_)
                          refine lv_goto (tgt := 38) hX0 hB0 dX12_pilesForm_92 (by decide) ?_
                          exact ih38 (i38 + 1) S47 ⟨⟨by omega, by omega⟩, (zfor_s _ _ _ (by omega)).trans ((congrArg (zm_pilesForm_L38 cv z2 i9 i20 i38) hz38).trans (by unfold zm_pilesForm_L38; exact zlet_e e47 rfl)), hI47, fun kk ii hk => ((hf47 kk ii (by omega))).trans (hf38 kk ii (by omega))⟩ (by omega) H locs ls hW (lv_sub hl [0, 2, 3, 4, 5, 6, 7] rfl)
                        ·
                          refine lv_aload_n hX0 hB0 dX12_pilesForm_56 rfl (lv_at hl 5 rfl) ?_
                          refine z_get (Cn := RX12) (T := TX12) (N := 37) CX hW (v := .ref (o + 12)) zMO_0 rfl (fun w h => List.mem_cons_of_mem _ (List.mem_append_right _ h)) 25 (by decide) (List.mem_of_getElem? (i := 1) rfl) rfl rfl dX12_pilesForm_57 ?_
                          refine lv_iload hX0 hB0 dX12_pilesForm_60 (lv_at hl 3 rfl) ?_
                          refine lv_iload hX0 hB0 dX12_pilesForm_62 (lv_at hl 1 rfl) ?_
                          refine z_iadd (z := i9 + i38) CX dX12_pilesForm_64 rfl ?_
                          refine lv_iload hX0 hB0 dX12_pilesForm_65 (lv_at hl 2 rfl) ?_
                          refine lv_iload hX0 hB0 dX12_pilesForm_67 (lv_at hl 0 rfl) ?_
                          refine z_iadd (z := i20 + i47) CX dX12_pilesForm_69 rfl ?_
                          refine z_calli hW (va_runS (As := [.int (zI (i9 + i38)), .int (zI (i20 + i47))]) (rest := [.ref (o + 12)]) CX.fix (zk_longAt l (f := zMO cI cJ o S47 f) (i9 + i38) (i20 + i47) (by constructor <;> omega) (by constructor <;> omega) (by omega)) (va_cwS 2 CX.fix.2.2.2.2 gX12_pilesForm_X12_longAt rfl rfl rfl (by decide +kernel) ⟨Nat.le_of_ble_eq_true rfl, Nat.le_of_ble_eq_true rfl⟩) (z_preS CX hW) rfl rfl hl.1 rfl (lv_room (Nat.le_of_ble_eq_true rfl)) dX12_pilesForm_70 ⟨Nat.zero_le _, Nat.zero_le _⟩) (fun z70 gn H locs hok hW => ?_)
                          obtain ⟨hz70, hg, hq70⟩ := hok
                          rw [hg] at hW
                          clear hg
                          have e70 : zm_longAt (i9 + i38) (i20 + i47) = z70 := hz70.symm
                          clear hz70
                          refine lv_aload_n hX0 hB0 dX12_pilesForm_73 rfl (lv_at hl 5 rfl) ?_
                          refine lv_iload_n hX0 hB0 dX12_pilesForm_74 rfl (lv_at hl 6 rfl) ?_
                          refine lv_iload hX0 hB0 dX12_pilesForm_75 (lv_at hl 1 rfl) ?_
                          refine lv_iload hX0 hB0 dX12_pilesForm_77 (lv_at hl 0 rfl) ?_
                          refine z_calli hW (va_runV (C := RX12) (As := [.int (zI cv), .int (zI i38), .int (zI i47)]) (rest := [.int (zI z70), .ref (o + 12)]) CX.fix (zk_cell l o S47 cv i38 i47 hI47 (by constructor <;> omega) (by constructor <;> omega) (by constructor <;> omega)) (cwV 3 CX.fix.2.2.2.2 gX12_pilesForm_X12_cell rfl rfl rfl (by decide +kernel) ⟨Nat.le_of_ble_eq_true rfl, Nat.le_of_ble_eq_true rfl⟩) (z_preV CX hW (r := (RX12, TX12, 37)) zMO_0 rfl) rfl rfl hl.1 rfl (lv_room (Nat.le_of_ble_eq_true rfl)) dX12_pilesForm_79 ⟨Nat.zero_le _, Nat.zero_le _⟩) (fun z79 gn H locs hok hW => ?_)
                          obtain ⟨hz79, hg, hq79⟩ := hok
                          rw [hg] at hW
                          clear hg
                          have e79 : zm_cell S47 cv i38 i47 = z79 := hz79.symm
                          clear hz79
                          obtain ⟨S82, e82⟩ : ∃ q, za S47 12 z70.toNat z79 = q := ⟨_, rfl⟩
                          refine z_iast CX hW zMO_12 0 rfl (by refine ⟨?_, ?_, ?_⟩ <;> omega) (g := zMO cI cJ o S82 f) (zMO_w12.trans (by rw [← e82]; rfl)) dX12_pilesForm_82 (fun H locs hW => ?_)
                          have hI82 : mI S82 := e82 ▸ hI47.w12 (by constructor <;> omega)
                          have t82_24 : S82 0 24 = S47 0 24 := by rw [← e82]; exact za_ne (by omega)
                          refine lv_iinc (v := zI (i47 + 1)) (lv' := [(7, .int (zI (i47 + 1))), (6, .int (zI i38)), (5, .int (zI i20)), (4, .int (zI i9)), (3, .int (zI z2)), (0, .ref o), (1, .int (zI cv)), (2, .int (zI dd))]) hX0 hB0 dX12_pilesForm_83 hl (k := 0) rfl (zI_add _ _) (by decide) rfl (fun ls hl => ?_)
                          refine lv_goto (tgt := 47) hX0 hB0 dX12_pilesForm_86 (by decide) ?_
                          exact ih47 (i47 + 1) S82 ⟨⟨by omega, by omega⟩, (zfor_s _ _ _ (by omega)).trans ((congrArg (zm_pilesForm_L47 cv i9 i20 i38 i47) hz47).trans (by unfold zm_pilesForm_L47; exact zlet_e e70 (zlet_e e79 (zlet_e e82 rfl)))), hI82, fun kk ii hk => ((show S82 kk ii = S47 kk ii from by rw [← e82]; exact za_ne (by omega))).trans (hf47 kk ii (by omega))⟩ (by omega) H locs ls hW (lv_sub hl [0, 1, 2, 3, 4, 5, 6, 7] rfl)
                    exact hL47 _ 0 S38 ⟨⟨by omega, by omega⟩, zfor_0 _ _ _, hI38, fun kk ii hk => rfl⟩ (Nat.lt_succ_self _) H locs ls hW (lv_sub hl [0, 1, 2, 3, 4, 5, 6, 7] rfl)
              exact hL38 _ 0 S32 ⟨⟨by omega, by omega⟩, zfor_0 _ _ _, hI32, fun kk ii hk => rfl⟩ (Nat.lt_succ_self _) H locs ls hW (lv_sub hl [0, 1, 2, 3, 4, 5, 6] rfl)
        exact hL20 _ 0 S9 ⟨⟨by omega, by omega⟩, zfor_0 _ _ _, hI9, fun kk ii hk => rfl, hv9⟩ (Nat.lt_succ_self _) H locs ls hW (lv_sub hl [0, 1, 2, 3, 4, 5] rfl)
  exact hL9 _ 0 S ⟨⟨by omega, by omega⟩, zfor_0 _ _ _, hI, fun kk ii hk => rfl, hpv⟩ (Nat.lt_succ_self _) H locs ls hW (lv_sub hl [0, 1, 2, 3, 4] rfl)
def zm_laysForms (S : zS2) (a : Int) (b : Int) (dd : Int) : zS2 := zlet (zm_manyTerms dd) (fun z2 => zlet (zm_beginsPile S z2) (fun S5 => zlet (zm_pilesForm S5 a dd) (fun S11 => zlet (zm_pilesForm S11 b dd) (fun S17 => S17))))
set_option maxRecDepth 100000 in
set_option maxHeartbeats 4000000 in
theorem zk_laysForms (l : Launch) {D : va_G} {cI cJ cZ cP cS cM : ClassId} {L : List Nat} {sz : Nat} {f : Nat → va_E} (o : Nat) (S : zS2) (a : Int) (b : Int) (dd : Int) (hI : mI S) (ha : 0 ≤ a ∧ a ≤ 5) (hb : 0 ≤ b ∧ b ≤ 5) (hdd : 0 ≤ dd ∧ dd ≤ 24) : zMv l yX12_laysForms wsX12_laysForms 5 120 D (zT cI cJ cZ cP cS cM) L sz (zMO cI cJ o S f) [.ref o, .int (zI a), .int (zI b), .int (zI dd)] (fun gv => gv = zMO cI cJ o (zm_laysForms S a b dd) f ∧ mI (zm_laysForms S a b dd) ∧ (∀ kk ii : Nat, ¬ (kk = 0 ∧ ii = 23) ∧ ¬ (kk = 0 ∧ ii = 24) ∧ ¬ (kk = 0 ∧ ii = 26) ∧ ¬ kk = 10 ∧ ¬ kk = 11 ∧ ¬ kk = 12 → (zm_laysForms S a b dd) kk ii = S kk ii) ∧ (zm_laysForms S a b dd) 0 23 = zcnt ((zm_laysForms S a b dd) 11) ((zm_laysForms S a b dd) 0 24).toNat ∧ (zm_laysForms S a b dd) 0 24 = zmt dd) := by
  refine zWalk.met (nL := 4) (ret := none) (cc := cX12_laysForms) (by decide) rfl (Nat.le_of_ble_eq_true rfl) ?_
  intro pg en st mi ag bl mt cd ls CX hW hl
  have CX : zC pg st mi ag mt cd cX12_laysForms 4 none RX12 wsX12_laysForms := CX
  generalize hQ : MQ bl _ ag st 0 0 _ = Q
  have hX0 := CX.1
  have hB0 := CX.2.1
  have hl : lv_has ls 4 [(0, .ref o), (1, .int (zI a)), (2, .int (zI b)), (3, .int (zI dd))] := hl
  obtain ⟨H, eH⟩ : ∃ H, H = st.heap := ⟨_, rfl⟩
  obtain ⟨locs, eL⟩ : ∃ L : List Loc, L = [] := ⟨_, rfl⟩
  have hW : zW D (zT cI cJ cZ cP cS cM) L (zQ L sz) st (zMO cI cJ o S f) st.heap H locs := by rw [eH, eL]; exact hW
  suffices hgo : W pg l en ({ frames := 5, cells := 0, slots := 0, locals := 120 } : Room) st mi ag bl mt cd H locs 0 0 Q (F0 mi 0 ls []) by rw [eH, eL] at hgo; exact hgo
  clear eH eL
  have hpb := hI.s10
  refine lv_aload_n hX0 hB0 dX12_laysForms_0 rfl (lv_at hl 0 rfl) ?_
  refine lv_iload_n hX0 hB0 dX12_laysForms_1 rfl (lv_at hl 3 rfl) ?_
  refine z_calli hW (va_runS (As := [.int (zI dd)]) (rest := [.ref o]) CX.fix (zk_manyTerms l (f := zMO cI cJ o S f) dd (by constructor <;> omega)) (va_cwS 1 CX.fix.2.2.2.2 gX12_laysForms_X12_manyTerms rfl rfl rfl (by decide +kernel) ⟨Nat.le_of_ble_eq_true rfl, Nat.le_of_ble_eq_true rfl⟩) (z_preS CX hW) rfl rfl hl.1 rfl (lv_room (Nat.le_of_ble_eq_true rfl)) dX12_laysForms_2 ⟨Nat.zero_le _, Nat.zero_le _⟩) (fun z2 gn H locs hok hW => ?_)
  obtain ⟨hz2, hg, hq2⟩ := hok
  rw [hg] at hW
  clear hg
  have e2 : zm_manyTerms dd = z2 := hz2.symm
  clear hz2
  refine z_callv hW (va_runV (C := RX12) (As := [.int (zI z2)]) (rest := []) CX.fix (zk_beginsPile l o S z2 hI (by constructor <;> omega)) (cwV 1 CX.fix.2.2.2.2 gX12_laysForms_X12_beginsPile rfl rfl rfl (by decide +kernel) ⟨Nat.le_of_ble_eq_true rfl, Nat.le_of_ble_eq_true rfl⟩) (z_preV CX hW (r := (RX12, TX12, 37)) zMO_0 rfl) rfl rfl hl.1 rfl (lv_room (Nat.le_of_ble_eq_true rfl)) dX12_laysForms_5 ⟨Nat.zero_le _, Nat.zero_le _⟩) (fun gn H locs hok hW => ?_)
  obtain ⟨hg, hI5, hf5, hq5⟩ := hok
  obtain ⟨S5, e5⟩ : ∃ q, zm_beginsPile S z2 = q := ⟨_, rfl⟩
  rw [e5] at hg hI5 hf5
  skip
  try rw [e5] at hq5
  rw [hg] at hW
  clear hg
  refine lv_aload_n hX0 hB0 dX12_laysForms_8 rfl (lv_at hl 0 rfl) ?_
  refine lv_iload_n hX0 hB0 dX12_laysForms_9 rfl (lv_at hl 1 rfl) ?_
  refine lv_iload_n hX0 hB0 dX12_laysForms_10 rfl (lv_at hl 3 rfl) ?_
  refine z_callv hW (va_runV (C := RX12) (As := [.int (zI a), .int (zI dd)]) (rest := []) CX.fix (zk_pilesForm l o S5 a dd hI5 (by constructor <;> omega) (by constructor <;> omega) (by omega) (by omega)) (cwV 2 CX.fix.2.2.2.2 gX12_laysForms_X12_pilesForm rfl rfl rfl (by decide +kernel) ⟨Nat.le_of_ble_eq_true rfl, Nat.le_of_ble_eq_true rfl⟩) (z_preV CX hW (r := (RX12, TX12, 37)) zMO_0 rfl) rfl rfl hl.1 rfl (lv_room (Nat.le_of_ble_eq_true rfl)) dX12_laysForms_11 ⟨Nat.zero_le _, Nat.zero_le _⟩) (fun gn H locs hok hW => ?_)
  obtain ⟨hg, hI11, hf11, hq11⟩ := hok
  obtain ⟨S11, e11⟩ : ∃ q, zm_pilesForm S5 a dd = q := ⟨_, rfl⟩
  rw [e11] at hg hI11 hf11
  have t11_24 : S11 0 24 = S5 0 24 := hf11 0 24 (by omega)
  skip
  try rw [e11] at hq11
  rw [hg] at hW
  clear hg
  refine lv_aload_n hX0 hB0 dX12_laysForms_14 rfl (lv_at hl 0 rfl) ?_
  refine lv_iload_n hX0 hB0 dX12_laysForms_15 rfl (lv_at hl 2 rfl) ?_
  refine lv_iload_n hX0 hB0 dX12_laysForms_16 rfl (lv_at hl 3 rfl) ?_
  refine z_callv hW (va_runV (C := RX12) (As := [.int (zI b), .int (zI dd)]) (rest := []) CX.fix (zk_pilesForm l o S11 b dd hI11 (by constructor <;> omega) (by constructor <;> omega) (by omega) (by omega)) (cwV 2 CX.fix.2.2.2.2 gX12_laysForms_X12_pilesForm rfl rfl rfl (by decide +kernel) ⟨Nat.le_of_ble_eq_true rfl, Nat.le_of_ble_eq_true rfl⟩) (z_preV CX hW (r := (RX12, TX12, 37)) zMO_0 rfl) rfl rfl hl.1 rfl (lv_room (Nat.le_of_ble_eq_true rfl)) dX12_laysForms_17 ⟨Nat.zero_le _, Nat.zero_le _⟩) (fun gn H locs hok hW => ?_)
  obtain ⟨hg, hI17, hf17, hq17⟩ := hok
  obtain ⟨S17, e17⟩ : ∃ q, zm_pilesForm S11 b dd = q := ⟨_, rfl⟩
  rw [e17] at hg hI17 hf17
  have t17_24 : S17 0 24 = S11 0 24 := hf17 0 24 (by omega)
  skip
  try rw [e17] at hq17
  rw [hg] at hW
  clear hg
  have hE : zm_laysForms S a b dd = S17 := by unfold zm_laysForms; exact zlet_e e2 (zlet_e e5 (zlet_e e11 (zlet_e e17 rfl)))
  have hFr : ∀ kk ii : Nat, ¬ (kk = 0 ∧ ii = 23) ∧ ¬ (kk = 0 ∧ ii = 24) ∧ ¬ (kk = 0 ∧ ii = 26) ∧ ¬ kk = 10 ∧ ¬ kk = 11 ∧ ¬ kk = 12 → S17 kk ii = S kk ii := fun kk ii hk => (((hf17 kk ii (by omega))).trans (hf11 kk ii (by omega))).trans (hf5 kk ii (by omega))
  rw [← hQ]
  exact z_vret CX hW (by rw [hE]; exact ⟨rfl, hI17, hFr, (show S17 0 23 = zcnt (S17 11) (S17 0 24).toNat ∧ S17 0 24 = zmt dd from by omega)⟩) dX12_laysForms_20
def zm_parts (S : zS2) (a : Int) (b : Int) (dd : Int) : Int × zS2 := zlet (zm_areCurves S a b) (fun z3 => (if z3 = 0 then (-1, S) else zlet (zm_isIn dd 0 24) (fun z13 => (if z13 = 0 then (-1, S) else zlet (zm_laysForms S a b dd) (fun S25 => zlet (zm_manyTerms dd) (fun z29 => (z29 - (S25 0 23), S25)))))))
set_option maxRecDepth 100000 in
set_option maxHeartbeats 4000000 in
theorem zk_parts (l : Launch) {D : va_G} {cI cJ cZ cP cS cM : ClassId} {L : List Nat} {sz : Nat} {f : Nat → va_E} (o : Nat) (S : zS2) (a : Int) (b : Int) (dd : Int) (hI : mI S) (ha : -2147483648 ≤ a ∧ a ≤ 2147483647) (hb : -2147483648 ≤ b ∧ b ≤ 2147483647) (hdd : -2147483648 ≤ dd ∧ dd ≤ 2147483647) : zMi l yX12_parts wsX12_parts 6 143 D (zT cI cJ cZ cP cS cM) L sz (zMO cI cJ o S f) [.ref o, .int (zI a), .int (zI b), .int (zI dd)] (fun zv gv => zv = (zm_parts S a b dd).1 ∧ gv = zMO cI cJ o (zm_parts S a b dd).2 f ∧ mI (zm_parts S a b dd).2 ∧ (∀ kk ii : Nat, ¬ (kk = 0 ∧ ii = 23) ∧ ¬ (kk = 0 ∧ ii = 24) ∧ ¬ (kk = 0 ∧ ii = 26) ∧ ¬ kk = 10 ∧ ¬ kk = 11 ∧ ¬ kk = 12 → (zm_parts S a b dd).2 kk ii = S kk ii) ∧ True) := by
  refine zWalk.met (nL := 4) (ret := (some .int)) (cc := cX12_parts) (by decide) rfl (Nat.le_of_ble_eq_true rfl) ?_
  intro pg en st mi ag bl mt cd ls CX hW hl
  have CX : zC pg st mi ag mt cd cX12_parts 4 (some .int) RX12 wsX12_parts := CX
  generalize hQ : MQ bl _ ag st 0 0 _ = Q
  have hX0 := CX.1
  have hB0 := CX.2.1
  have hl : lv_has ls 4 [(0, .ref o), (1, .int (zI a)), (2, .int (zI b)), (3, .int (zI dd))] := hl
  obtain ⟨H, eH⟩ : ∃ H, H = st.heap := ⟨_, rfl⟩
  obtain ⟨locs, eL⟩ : ∃ L : List Loc, L = [] := ⟨_, rfl⟩
  have hW : zW D (zT cI cJ cZ cP cS cM) L (zQ L sz) st (zMO cI cJ o S f) st.heap H locs := by rw [eH, eL]; exact hW
  suffices hgo : W pg l en ({ frames := 6, cells := 0, slots := 0, locals := 143 } : Room) st mi ag bl mt cd H locs 0 0 Q (F0 mi 0 ls []) by rw [eH, eL] at hgo; exact hgo
  clear eH eL
  have hpb := hI.s10
  refine lv_aload_n hX0 hB0 dX12_parts_0 rfl (lv_at hl 0 rfl) ?_
  refine lv_iload_n hX0 hB0 dX12_parts_1 rfl (lv_at hl 1 rfl) ?_
  refine lv_iload_n hX0 hB0 dX12_parts_2 rfl (lv_at hl 2 rfl) ?_
  refine z_calli hW (va_runV (C := RX12) (As := [.int (zI a), .int (zI b)]) (rest := []) CX.fix (zk_areCurves l o S a b hI (by constructor <;> omega) (by constructor <;> omega)) (cwV 2 CX.fix.2.2.2.2 gX12_parts_X12_areCurves rfl rfl rfl (by decide +kernel) ⟨Nat.le_of_ble_eq_true rfl, Nat.le_of_ble_eq_true rfl⟩) (z_preV CX hW (r := (RX12, TX12, 37)) zMO_0 rfl) rfl rfl hl.1 rfl (lv_room (Nat.le_of_ble_eq_true rfl)) dX12_parts_3 ⟨Nat.zero_le _, Nat.zero_le _⟩) (fun z3 gn H locs hok hW => ?_)
  obtain ⟨hz3, hg, hq3⟩ := hok
  rw [hg] at hW
  clear hg
  have e3 : zm_areCurves S a b = z3 := hz3.symm
  clear hz3
  refine z_if_eq (tgt := 19) CX dX12_parts_6 (by decide) (by constructor <;> omega) (fun c_6 => ?_) (fun c_6 => ?_)
  ·
    refine lv_iconst (v := zI (-1)) hX0 hB0 dX12_parts_19 rfl ?_
    have hE : zm_parts S a b dd = (-1, S) := by unfold zm_parts; exact zlet_e e3 (zif_t c_6 rfl)
    have hFr : ∀ kk ii : Nat, ¬ (kk = 0 ∧ ii = 23) ∧ ¬ (kk = 0 ∧ ii = 24) ∧ ¬ (kk = 0 ∧ ii = 26) ∧ ¬ kk = 10 ∧ ¬ kk = 11 ∧ ¬ kk = 12 → S kk ii = S kk ii := fun kk ii hk => rfl
    rw [← hQ]
    exact z_iret (z := -1) CX hW (by rw [hE]; exact ⟨rfl, rfl, hI, hFr, trivial⟩) rfl dX12_parts_20
  ·
    refine lv_iload_n hX0 hB0 dX12_parts_9 rfl (lv_at hl 3 rfl) ?_
    refine lv_iconst (v := zI 0) hX0 hB0 dX12_parts_10 rfl ?_
    refine lv_bipush (v := zI 24) hX0 hB0 dX12_parts_11 (by decide) ?_
    refine z_calli hW (va_runS (As := [.int (zI dd), .int (zI 0), .int (zI 24)]) (rest := []) CX.fix (zk_isIn l (f := zMO cI cJ o S f) dd 0 24 (by constructor <;> omega) (by constructor <;> omega) (by constructor <;> omega)) (va_cwS 3 CX.fix.2.2.2.2 gX12_parts_X12_isIn rfl rfl rfl (by decide +kernel) ⟨Nat.le_of_ble_eq_true rfl, Nat.le_of_ble_eq_true rfl⟩) (z_preS CX hW) rfl rfl hl.1 rfl (lv_room (Nat.le_of_ble_eq_true rfl)) dX12_parts_13 ⟨Nat.zero_le _, Nat.zero_le _⟩) (fun z13 gn H locs hok hW => ?_)
    obtain ⟨hz13, hg, hq13⟩ := hok
    rw [hg] at hW
    clear hg
    have e13 : zm_isIn dd 0 24 = z13 := hz13.symm
    clear hz13
    refine z_if_ne (tgt := 21) CX dX12_parts_16 (by decide) (by constructor <;> omega) (fun c_16 => ?_) (fun c_16 => ?_)
    ·
      refine lv_aload_n hX0 hB0 dX12_parts_21 rfl (lv_at hl 0 rfl) ?_
      refine lv_iload_n hX0 hB0 dX12_parts_22 rfl (lv_at hl 1 rfl) ?_
      refine lv_iload_n hX0 hB0 dX12_parts_23 rfl (lv_at hl 2 rfl) ?_
      refine lv_iload_n hX0 hB0 dX12_parts_24 rfl (lv_at hl 3 rfl) ?_
      refine z_callv hW (va_runV (C := RX12) (As := [.int (zI a), .int (zI b), .int (zI dd)]) (rest := []) CX.fix (zk_laysForms l o S a b dd hI (by constructor <;> omega) (by constructor <;> omega) (by constructor <;> omega)) (cwV 3 CX.fix.2.2.2.2 gX12_parts_X12_laysForms rfl rfl rfl (by decide +kernel) ⟨Nat.le_of_ble_eq_true rfl, Nat.le_of_ble_eq_true rfl⟩) (z_preV CX hW (r := (RX12, TX12, 37)) zMO_0 rfl) rfl rfl hl.1 rfl (lv_room (Nat.le_of_ble_eq_true rfl)) dX12_parts_25 ⟨Nat.zero_le _, Nat.zero_le _⟩) (fun gn H locs hok hW => ?_)
      obtain ⟨hg, hI25, hf25, hq25⟩ := hok
      obtain ⟨S25, e25⟩ : ∃ q, zm_laysForms S a b dd = q := ⟨_, rfl⟩
      rw [e25] at hg hI25 hf25
      skip
      try rw [e25] at hq25
      rw [hg] at hW
      clear hg
      refine lv_iload_n hX0 hB0 dX12_parts_28 rfl (lv_at hl 3 rfl) ?_
      refine z_calli hW (va_runS (As := [.int (zI dd)]) (rest := []) CX.fix (zk_manyTerms l (f := zMO cI cJ o S25 f) dd (by constructor <;> omega)) (va_cwS 1 CX.fix.2.2.2.2 gX12_parts_X12_manyTerms rfl rfl rfl (by decide +kernel) ⟨Nat.le_of_ble_eq_true rfl, Nat.le_of_ble_eq_true rfl⟩) (z_preS CX hW) rfl rfl hl.1 rfl (lv_room (Nat.le_of_ble_eq_true rfl)) dX12_parts_29 ⟨Nat.zero_le _, Nat.zero_le _⟩) (fun z29 gn H locs hok hW => ?_)
      obtain ⟨hz29, hg, hq29⟩ := hok
      rw [hg] at hW
      clear hg
      have e29 : zm_manyTerms dd = z29 := hz29.symm
      clear hz29
      refine lv_aload_n hX0 hB0 dX12_parts_32 rfl (lv_at hl 0 rfl) ?_
      refine z_get (Cn := RX12) (T := TX12) (N := 37) CX hW (v := .int (zI (S25 0 23))) zMO_0 rfl (fun w h => List.mem_cons_of_mem _ (List.mem_append_right _ h)) 23 (by decide) (List.mem_of_getElem? (i := 1) rfl) rfl rfl dX12_parts_33 ?_
      have hr33 := hI25.s23
      refine z_isub (z := z29 - (S25 0 23)) CX dX12_parts_36 rfl ?_
      have hE : zm_parts S a b dd = (z29 - (S25 0 23), S25) := by unfold zm_parts; exact zlet_e e3 (zif_f c_6 (zlet_e e13 (zif_f c_16 (zlet_e e25 (zlet_e e29 rfl)))))
      have hFr : ∀ kk ii : Nat, ¬ (kk = 0 ∧ ii = 23) ∧ ¬ (kk = 0 ∧ ii = 24) ∧ ¬ (kk = 0 ∧ ii = 26) ∧ ¬ kk = 10 ∧ ¬ kk = 11 ∧ ¬ kk = 12 → S25 kk ii = S kk ii := fun kk ii hk => (hf25 kk ii (by omega))
      rw [← hQ]
      exact z_iret (z := z29 - (S25 0 23)) CX hW (by rw [hE]; exact ⟨rfl, rfl, hI25, hFr, trivial⟩) rfl dX12_parts_37
    ·
      refine lv_iconst (v := zI (-1)) hX0 hB0 dX12_parts_19 rfl ?_
      have hE : zm_parts S a b dd = (-1, S) := by unfold zm_parts; exact zlet_e e3 (zif_f c_6 (zlet_e e13 (zif_t c_16 rfl)))
      have hFr : ∀ kk ii : Nat, ¬ (kk = 0 ∧ ii = 23) ∧ ¬ (kk = 0 ∧ ii = 24) ∧ ¬ (kk = 0 ∧ ii = 26) ∧ ¬ kk = 10 ∧ ¬ kk = 11 ∧ ¬ kk = 12 → S kk ii = S kk ii := fun kk ii hk => rfl
      rw [← hQ]
      exact z_iret (z := -1) CX hW (by rw [hE]; exact ⟨rfl, rfl, hI, hFr, trivial⟩) rfl dX12_parts_20
def zm_near_L26 (i16 : Int) : Int → zS2 → zS2 := fun i26 s26 => (fun (S26 : zS2) => zlet (zm_emptiesVector S26) (fun S37 => zlet (zm_longAt i16 i26) (fun z48 => zlet (za S37 12 z48.toNat 1) (fun S52 => zlet (zm_piles S52) (fun q59 => (fun (z59 : Int) (S59 : zS2) => (if z59 = 0 then zlet (za S59 0 26 ((S52 0 26) + 0)) (fun S71 => S71) else zlet (za S59 0 26 ((S52 0 26) + 1)) (fun S71 => S71))) q59.1 q59.2))))) s26
def zm_near_L16  : Int → zS2 → zS2 := fun i16 s16 => (fun (S16 : zS2) => zlet (zfor (zm_near_L26 i16) 0 S16 ((8 - i16) + 1 - 0).toNat) (fun S26 => S26)) s16
def zm_near (S : zS2) (a : Int) (b : Int) : Int × zS2 := zlet (zm_laysForms S a b 24) (fun S5 => zlet (zfor (zm_near_L16) 0 S5 (8 + 1 - 0 : Int).toNat) (fun S16 => ((S16 0 23) - (S5 0 23), S16)))
set_option maxRecDepth 100000 in
set_option maxHeartbeats 4000000 in
theorem zk_near (l : Launch) {D : va_G} {cI cJ cZ cP cS cM : ClassId} {L : List Nat} {sz : Nat} {f : Nat → va_E} (o : Nat) (S : zS2) (a : Int) (b : Int) (hI : mI S) (ha : 0 ≤ a ∧ a ≤ 5) (hb : 0 ≤ b ∧ b ≤ 5) : zMi l yX12_near wsX12_near 6 143 D (zT cI cJ cZ cP cS cM) L sz (zMO cI cJ o S f) [.ref o, .int (zI a), .int (zI b)] (fun zv gv => zv = (zm_near S a b).1 ∧ gv = zMO cI cJ o (zm_near S a b).2 f ∧ mI (zm_near S a b).2 ∧ (∀ kk ii : Nat, ¬ (kk = 0 ∧ ii = 23) ∧ ¬ (kk = 0 ∧ ii = 24) ∧ ¬ (kk = 0 ∧ ii = 26) ∧ ¬ kk = 10 ∧ ¬ kk = 11 ∧ ¬ kk = 12 → (zm_near S a b).2 kk ii = S kk ii) ∧ -325 ≤ zv ∧ zv ≤ 325) := by
  refine zWalk.met (nL := 6) (ret := (some .int)) (cc := cX12_near) (by decide) rfl (Nat.le_of_ble_eq_true rfl) ?_
  intro pg en st mi ag bl mt cd ls CX hW hl
  have CX : zC pg st mi ag mt cd cX12_near 6 (some .int) RX12 wsX12_near := CX
  generalize hQ : MQ bl _ ag st 0 0 _ = Q
  have hX0 := CX.1
  have hB0 := CX.2.1
  have hl : lv_has ls 6 [(0, .ref o), (1, .int (zI a)), (2, .int (zI b))] := hl
  obtain ⟨H, eH⟩ : ∃ H, H = st.heap := ⟨_, rfl⟩
  obtain ⟨locs, eL⟩ : ∃ L : List Loc, L = [] := ⟨_, rfl⟩
  have hW : zW D (zT cI cJ cZ cP cS cM) L (zQ L sz) st (zMO cI cJ o S f) st.heap H locs := by rw [eH, eL]; exact hW
  suffices hgo : W pg l en ({ frames := 6, cells := 0, slots := 0, locals := 143 } : Room) st mi ag bl mt cd H locs 0 0 Q (F0 mi 0 ls []) by rw [eH, eL] at hgo; exact hgo
  clear eH eL
  have hpb := hI.s10
  skip
  refine lv_aload_n hX0 hB0 dX12_near_0 rfl (lv_at hl 0 rfl) ?_
  refine lv_iload_n hX0 hB0 dX12_near_1 rfl (lv_at hl 1 rfl) ?_
  refine lv_iload_n hX0 hB0 dX12_near_2 rfl (lv_at hl 2 rfl) ?_
  refine lv_bipush (v := zI 24) hX0 hB0 dX12_near_3 (by decide) ?_
  refine z_callv hW (va_runV (C := RX12) (As := [.int (zI a), .int (zI b), .int (zI 24)]) (rest := []) CX.fix (zk_laysForms l o S a b 24 hI (by constructor <;> omega) (by constructor <;> omega) (by constructor <;> omega)) (cwV 3 CX.fix.2.2.2.2 gX12_near_X12_laysForms rfl rfl rfl (by decide +kernel) ⟨Nat.le_of_ble_eq_true rfl, Nat.le_of_ble_eq_true rfl⟩) (z_preV CX hW (r := (RX12, TX12, 37)) zMO_0 rfl) rfl rfl hl.1 rfl (lv_room (Nat.le_of_ble_eq_true rfl)) dX12_near_5 ⟨Nat.zero_le _, Nat.zero_le _⟩) (fun gn H locs hok hW => ?_)
  obtain ⟨hg, hI5, hf5, hq5⟩ := hok
  obtain ⟨S5, e5⟩ : ∃ q, zm_laysForms S a b 24 = q := ⟨_, rfl⟩
  rw [e5] at hg hI5 hf5
  skip
  try rw [e5] at hq5
  rw [hg] at hW
  clear hg
  refine lv_aload_n hX0 hB0 dX12_near_8 rfl (lv_at hl 0 rfl) ?_
  refine z_get (Cn := RX12) (T := TX12) (N := 37) CX hW (v := .int (zI (S5 0 23))) zMO_0 rfl (fun w h => List.mem_cons_of_mem _ (List.mem_append_right _ h)) 23 (by decide) (List.mem_of_getElem? (i := 1) rfl) rfl rfl dX12_near_9 ?_
  have hr9 := hI5.s23
  refine lv_istore_n (lv' := [(3, .int (zI (S5 0 23))), (0, .ref o), (1, .int (zI a)), (2, .int (zI b))]) hX0 hB0 dX12_near_12 rfl hl (by decide) rfl (fun ls hl => ?_)
  refine lv_iconst (v := zI 0) hX0 hB0 dX12_near_13 rfl ?_
  refine lv_istore (lv' := [(4, .int (zI 0)), (3, .int (zI (S5 0 23))), (0, .ref o), (1, .int (zI a)), (2, .int (zI b))]) hX0 hB0 dX12_near_14 hl (by decide) rfl (fun ls hl => ?_)
  have hL16 : ∀ (fu : Nat) (i16 : Int) (S16 : zS2), ((0 ≤ i16 ∧ i16 ≤ 8 + 1) ∧ zfor (zm_near_L16) 0 S5 (i16 - 0).toNat = S16 ∧ mI S16 ∧ (∀ kk ii : Nat, ¬ (kk = 0 ∧ ii = 23) ∧ ¬ (kk = 0 ∧ ii = 26) ∧ ¬ kk = 10 ∧ ¬ kk = 11 ∧ ¬ kk = 12 → S16 kk ii = S5 kk ii) ∧ (S16 0 23 = zcnt (S16 11) (S16 0 24).toNat)) → (8 + 1 - i16).toNat < fu → ∀ (H : Heap) (locs : List Loc) (ls : Array Slot), zW D (zT cI cJ cZ cP cS cM) L (zQ L sz) st (zMO cI cJ o S16 f) st.heap H locs → lv_has ls 6 [(4, .int (zI i16)), (3, .int (zI (S5 0 23))), (0, .ref o), (1, .int (zI a)), (2, .int (zI b))] → W pg l en ({ frames := 6, cells := 0, slots := 0, locals := 143 } : Room) st mi ag bl mt cd H locs 0 0 Q (F0 mi 16 ls []) := by
    intro fu
    induction fu with
    | zero => intro i16 S16 _ hfu; exact absurd hfu (Nat.not_lt_zero _)
    | succ fu ih16 =>
      intro i16 S16 hinv hfu16 H locs ls hW hl
      obtain ⟨⟨hlo16, hhi16⟩, hz16, hI16, hf16, hv16⟩ := hinv
      have hp16 := hI16.s10
      have t16_24 : S16 0 24 = S5 0 24 := hf16 0 24 (by omega)
      refine lv_iload hX0 hB0 dX12_near_16 (lv_at hl 0 rfl) ?_
      refine lv_bipush (v := zI 8) hX0 hB0 dX12_near_18 (by decide) ?_
      refine z_icmp_gt (tgt := 86) CX dX12_near_20 (by decide) (by constructor <;> omega) (by constructor <;> omega) (fun c_20 => ?_) (fun c_20 => ?_)
      ·
        have e16 : zfor (zm_near_L16) 0 S5 (8 + 1 - 0 : Int).toNat = S16 := by rw [show (8 + 1 - 0 : Int).toNat = (i16 - 0).toNat by omega]; exact hz16
        have hb16 := hI16.s23
        have hb5 := hI5.s23
        refine lv_aload_n hX0 hB0 dX12_near_86 rfl (lv_at hl 2 rfl) ?_
        refine z_get (Cn := RX12) (T := TX12) (N := 37) CX hW (v := .int (zI (S16 0 23))) zMO_0 rfl (fun w h => List.mem_cons_of_mem _ (List.mem_append_right _ h)) 23 (by decide) (List.mem_of_getElem? (i := 1) rfl) rfl rfl dX12_near_87 ?_
        have hr87 := hI16.s23
        refine lv_iload_n hX0 hB0 dX12_near_90 rfl (lv_at hl 1 rfl) ?_
        refine z_isub (z := (S16 0 23) - (S5 0 23)) CX dX12_near_91 rfl ?_
        have hE : zm_near S a b = ((S16 0 23) - (S5 0 23), S16) := by unfold zm_near; exact zlet_e e5 (zlet_e e16 rfl)
        have hFr : ∀ kk ii : Nat, ¬ (kk = 0 ∧ ii = 23) ∧ ¬ (kk = 0 ∧ ii = 24) ∧ ¬ (kk = 0 ∧ ii = 26) ∧ ¬ kk = 10 ∧ ¬ kk = 11 ∧ ¬ kk = 12 → S16 kk ii = S kk ii := fun kk ii hk => ((hf16 kk ii (by omega))).trans (hf5 kk ii (by omega))
        rw [← hQ]
        exact z_iret (z := (S16 0 23) - (S5 0 23)) CX hW (by rw [hE]; exact ⟨rfl, rfl, hI16, hFr, (show -325 ≤ ((S16 0 23) - (S5 0 23)) ∧ ((S16 0 23) - (S5 0 23)) ≤ 325 from by omega)⟩) rfl dX12_near_92
      ·
        refine lv_iconst (v := zI 0) hX0 hB0 dX12_near_23 rfl ?_
        refine lv_istore (lv' := [(5, .int (zI 0)), (4, .int (zI i16)), (3, .int (zI (S5 0 23))), (0, .ref o), (1, .int (zI a)), (2, .int (zI b))]) hX0 hB0 dX12_near_24 hl (by decide) rfl (fun ls hl => ?_)
        have hL26 : ∀ (fu : Nat) (i26 : Int) (S26 : zS2), ((0 ≤ i26 ∧ i26 ≤ 8 - i16 + 1) ∧ zfor (zm_near_L26 i16) 0 S16 (i26 - 0).toNat = S26 ∧ mI S26 ∧ (∀ kk ii : Nat, ¬ (kk = 0 ∧ ii = 23) ∧ ¬ (kk = 0 ∧ ii = 26) ∧ ¬ kk = 10 ∧ ¬ kk = 11 ∧ ¬ kk = 12 → S26 kk ii = S16 kk ii) ∧ (S26 0 23 = zcnt (S26 11) (S26 0 24).toNat)) → ((8 - i16) + 1 - i26).toNat < fu → ∀ (H : Heap) (locs : List Loc) (ls : Array Slot), zW D (zT cI cJ cZ cP cS cM) L (zQ L sz) st (zMO cI cJ o S26 f) st.heap H locs → lv_has ls 6 [(5, .int (zI i26)), (4, .int (zI i16)), (3, .int (zI (S5 0 23))), (0, .ref o), (1, .int (zI a)), (2, .int (zI b))] → W pg l en ({ frames := 6, cells := 0, slots := 0, locals := 143 } : Room) st mi ag bl mt cd H locs 0 0 Q (F0 mi 26 ls []) := by
          intro fu
          induction fu with
          | zero => intro i26 S26 _ hfu; exact absurd hfu (Nat.not_lt_zero _)
          | succ fu ih26 =>
            intro i26 S26 hinv hfu26 H locs ls hW hl
            obtain ⟨⟨hlo26, hhi26⟩, hz26, hI26, hf26, hv26⟩ := hinv
            have hp26 := hI26.s10
            have t26_24 : S26 0 24 = S16 0 24 := hf26 0 24 (by omega)
            refine lv_iload hX0 hB0 dX12_near_26 (lv_at hl 1 rfl) ?_
            refine lv_iload hX0 hB0 dX12_near_28 (lv_at hl 0 rfl) ?_
            refine z_iadd (z := i16 + i26) CX dX12_near_30 rfl ?_
            refine lv_bipush (v := zI 8) hX0 hB0 dX12_near_31 (by decide) ?_
            refine z_icmp_gt (tgt := 80) CX dX12_near_33 (by decide) (by constructor <;> omega) (by constructor <;> omega) (fun c_33 => ?_) (fun c_33 => ?_)
            ·
              have e26 : zfor (zm_near_L26 i16) 0 S16 ((8 - i16) + 1 - 0).toNat = S26 := by rw [show ((8 - i16) + 1 - 0).toNat = (i26 - 0).toNat by omega]; exact hz26
              refine lv_iinc (v := zI (i16 + 1)) (lv' := [(4, .int (zI (i16 + 1))), (5, .int (zI i26)), (3, .int (zI (S5 0 23))), (0, .ref o), (1, .int (zI a)), (2, .int (zI b))]) hX0 hB0 dX12_near_80 hl (k := 1) rfl (zI_add _ _) (by decide) rfl (fun ls hl => ?_)
              refine lv_goto (tgt := 16) hX0 hB0 dX12_near_83 (by decide) ?_
              exact ih16 (i16 + 1) S26 ⟨⟨by omega, by omega⟩, (zfor_s _ _ _ (by omega)).trans ((congrArg (zm_near_L16 i16) hz16).trans (by unfold zm_near_L16; exact zlet_e e26 rfl)), hI26, fun kk ii hk => ((hf26 kk ii (by omega))).trans (hf16 kk ii (by omega)), hv26⟩ (by omega) H locs ls hW (lv_sub hl [0, 2, 3, 4, 5] rfl)
            ·
              refine lv_aload_n hX0 hB0 dX12_near_36 rfl (lv_at hl 3 rfl) ?_
              refine z_callv hW (va_runV (C := RX12) (As := []) (rest := []) CX.fix (zk_emptiesVector l o S26  hI26 ) (cwV 0 CX.fix.2.2.2.2 gX12_near_X12_emptiesVector rfl rfl rfl (by decide +kernel) ⟨Nat.le_of_ble_eq_true rfl, Nat.le_of_ble_eq_true rfl⟩) (z_preV CX hW (r := (RX12, TX12, 37)) zMO_0 rfl) rfl rfl hl.1 rfl (lv_room (Nat.le_of_ble_eq_true rfl)) dX12_near_37 ⟨Nat.zero_le _, Nat.zero_le _⟩) (fun gn H locs hok hW => ?_)
              obtain ⟨hg, hI37, hf37, hq37⟩ := hok
              obtain ⟨S37, e37⟩ : ∃ q, zm_emptiesVector S26 = q := ⟨_, rfl⟩
              rw [e37] at hg hI37 hf37
              have t37_24 : S37 0 24 = S26 0 24 := hf37 0 24 (by omega)
              skip
              try rw [e37] at hq37
              rw [hg] at hW
              clear hg
              refine lv_aload_n hX0 hB0 dX12_near_40 rfl (lv_at hl 3 rfl) ?_
              refine z_get (Cn := RX12) (T := TX12) (N := 37) CX hW (v := .ref (o + 12)) zMO_0 rfl (fun w h => List.mem_cons_of_mem _ (List.mem_append_right _ h)) 25 (by decide) (List.mem_of_getElem? (i := 2) rfl) rfl rfl dX12_near_41 ?_
              refine lv_iload hX0 hB0 dX12_near_44 (lv_at hl 1 rfl) ?_
              refine lv_iload hX0 hB0 dX12_near_46 (lv_at hl 0 rfl) ?_
              refine z_calli hW (va_runS (As := [.int (zI i16), .int (zI i26)]) (rest := [.ref (o + 12)]) CX.fix (zk_longAt l (f := zMO cI cJ o S37 f) i16 i26 (by constructor <;> omega) (by constructor <;> omega) (by omega)) (va_cwS 2 CX.fix.2.2.2.2 gX12_near_X12_longAt rfl rfl rfl (by decide +kernel) ⟨Nat.le_of_ble_eq_true rfl, Nat.le_of_ble_eq_true rfl⟩) (z_preS CX hW) rfl rfl hl.1 rfl (lv_room (Nat.le_of_ble_eq_true rfl)) dX12_near_48 ⟨Nat.zero_le _, Nat.zero_le _⟩) (fun z48 gn H locs hok hW => ?_)
              obtain ⟨hz48, hg, hq48⟩ := hok
              rw [hg] at hW
              clear hg
              have e48 : zm_longAt i16 i26 = z48 := hz48.symm
              clear hz48
              refine lv_iconst (v := zI 1) hX0 hB0 dX12_near_51 rfl ?_
              obtain ⟨S52, e52⟩ : ∃ q, za S37 12 z48.toNat 1 = q := ⟨_, rfl⟩
              refine z_iast CX hW zMO_12 0 rfl (by refine ⟨?_, ?_, ?_⟩ <;> omega) (g := zMO cI cJ o S52 f) (zMO_w12.trans (by rw [← e52]; rfl)) dX12_near_52 (fun H locs hW => ?_)
              have hI52 : mI S52 := e52 ▸ hI37.w12 (by constructor <;> omega)
              have t52_24 : S52 0 24 = S37 0 24 := by rw [← e52]; exact za_ne (by omega)
              refine lv_aload_n hX0 hB0 dX12_near_53 rfl (lv_at hl 3 rfl) ?_
              refine lv_dup hX0 hB0 dX12_near_54 rfl ?_
              refine z_get (Cn := RX12) (T := TX12) (N := 37) CX hW (v := .int (zI (S52 0 26))) zMO_0 rfl (fun w h => List.mem_cons_of_mem _ (List.mem_append_right _ h)) 26 (by decide) (List.mem_of_getElem? (i := 3) rfl) rfl rfl dX12_near_55 ?_
              refine lv_aload_n hX0 hB0 dX12_near_58 rfl (lv_at hl 3 rfl) ?_
              refine z_calli hW (va_runV (C := RX12) (As := []) (rest := [.int (zI (S52 0 26)), .ref o]) CX.fix (zk_piles l o S52  hI52 (by rw [show S52 11 = S26 11 from funext (fun ii => ((show S52 11 ii = S37 11 ii from by rw [← e52]; exact za_ne (by omega))).trans (hf37 11 ii (by omega))), show S52 0 23 = S26 0 23 from ((show S52 0 23 = S37 0 23 from by rw [← e52]; exact za_ne (by omega))).trans (hf37 0 23 (by omega)), show S52 0 24 = S26 0 24 from ((show S52 0 24 = S37 0 24 from by rw [← e52]; exact za_ne (by omega))).trans (hf37 0 24 (by omega))]; exact hv26)) (cwV 0 CX.fix.2.2.2.2 gX12_near_X12_piles rfl rfl rfl (by decide +kernel) ⟨Nat.le_of_ble_eq_true rfl, Nat.le_of_ble_eq_true rfl⟩) (z_preV CX hW (r := (RX12, TX12, 37)) zMO_0 rfl) rfl rfl hl.1 rfl (lv_room (Nat.le_of_ble_eq_true rfl)) dX12_near_59 ⟨Nat.zero_le _, Nat.zero_le _⟩) (fun z59 gn H locs hok hW => ?_)
              obtain ⟨hz59, hg, hI59, hf59, hq59⟩ := hok
              obtain ⟨S59, hS59⟩ : ∃ q, q = (zm_piles S52).2 := ⟨_, rfl⟩
              rw [← hS59] at hg hI59 hf59
              have t59_24 : S59 0 24 = S52 0 24 := hf59 0 24 (by omega)
              skip
              try rw [← hS59] at hq59
              rw [hg] at hW
              clear hg
              have e59 : zm_piles S52 = (z59, S59) := Prod.ext hz59.symm hS59.symm
              clear hz59 hS59
              refine z_if_eq (tgt := 69) CX dX12_near_62 (by decide) (by constructor <;> omega) (fun c_62 => ?_) (fun c_62 => ?_)
              ·
                refine lv_iconst (v := zI 0) hX0 hB0 dX12_near_69 rfl ?_
                refine z_iadd (z := (S52 0 26) + 0) CX dX12_near_70 rfl ?_
                obtain ⟨S71, e71⟩ : ∃ q, za S59 0 26 ((S52 0 26) + 0) = q := ⟨_, rfl⟩
                refine z_put (Cn := RX12) (T := TX12) (N := 37) CX hW (v := .int (zI ((S52 0 26) + 0))) zMO_0 rfl (fun w h => List.mem_cons_of_mem _ (List.mem_append_right _ h)) tyX12 tyX12_ok nmX12 26 (by decide) (List.mem_of_getElem? (i := 3) rfl) rfl rfl rfl rfl (Nat.le_of_ble_eq_true rfl) (g := zMO cI cJ o S71 f) (zMO_s26.trans (by rw [e71])) dX12_near_71 (fun H locs hW => ?_)
                have hI71 : mI S71 := e71 ▸ hI59.v26 
                have t71_24 : S71 0 24 = S59 0 24 := by rw [← e71]; exact za_ne (by omega)
                refine lv_iinc (v := zI (i26 + 1)) (lv' := [(5, .int (zI (i26 + 1))), (4, .int (zI i16)), (3, .int (zI (S5 0 23))), (0, .ref o), (1, .int (zI a)), (2, .int (zI b))]) hX0 hB0 dX12_near_74 hl (k := 0) rfl (zI_add _ _) (by decide) rfl (fun ls hl => ?_)
                refine lv_goto (tgt := 26) hX0 hB0 dX12_near_77 (by decide) ?_
                exact ih26 (i26 + 1) S71 ⟨⟨by omega, by omega⟩, (zfor_s _ _ _ (by omega)).trans ((congrArg (zm_near_L26 i16 i26) hz26).trans (by unfold zm_near_L26; exact zlet_e e37 (zlet_e e48 (zlet_e e52 (zlet_e e59 (zif_t c_62 (zlet_e e71 rfl))))))), hI71, fun kk ii hk => (((((show S71 kk ii = S59 kk ii from by rw [← e71]; exact za_ne (by omega))).trans (hf59 kk ii (by omega))).trans (show S52 kk ii = S37 kk ii from by rw [← e52]; exact za_ne (by omega))).trans (hf37 kk ii (by omega))).trans (hf26 kk ii (by omega)), (by rw [show S71 11 = S59 11 from funext (fun ii => (show S71 11 ii = S59 11 ii from by rw [← e71]; exact za_ne (by omega))), show S71 0 23 = S59 0 23 from (show S71 0 23 = S59 0 23 from by rw [← e71]; exact za_ne (by omega)), show S71 0 24 = S59 0 24 from (show S71 0 24 = S59 0 24 from by rw [← e71]; exact za_ne (by omega))]; exact hq59.2.2)⟩ (by omega) H locs ls hW (lv_sub hl [0, 1, 2, 3, 4, 5] rfl)
              ·
                refine lv_iconst (v := zI 1) hX0 hB0 dX12_near_65 rfl ?_
                refine lv_goto (tgt := 70) hX0 hB0 dX12_near_66 (by decide) ?_
                refine z_iadd (z := (S52 0 26) + 1) CX dX12_near_70 rfl ?_
                obtain ⟨S71, e71⟩ : ∃ q, za S59 0 26 ((S52 0 26) + 1) = q := ⟨_, rfl⟩
                refine z_put (Cn := RX12) (T := TX12) (N := 37) CX hW (v := .int (zI ((S52 0 26) + 1))) zMO_0 rfl (fun w h => List.mem_cons_of_mem _ (List.mem_append_right _ h)) tyX12 tyX12_ok nmX12 26 (by decide) (List.mem_of_getElem? (i := 3) rfl) rfl rfl rfl rfl (Nat.le_of_ble_eq_true rfl) (g := zMO cI cJ o S71 f) (zMO_s26.trans (by rw [e71])) dX12_near_71 (fun H locs hW => ?_)
                have hI71 : mI S71 := e71 ▸ hI59.v26 
                have t71_24 : S71 0 24 = S59 0 24 := by rw [← e71]; exact za_ne (by omega)
                refine lv_iinc (v := zI (i26 + 1)) (lv' := [(5, .int (zI (i26 + 1))), (4, .int (zI i16)), (3, .int (zI (S5 0 23))), (0, .ref o), (1, .int (zI a)), (2, .int (zI b))]) hX0 hB0 dX12_near_74 hl (k := 0) rfl (zI_add _ _) (by decide) rfl (fun ls hl => ?_)
                refine lv_goto (tgt := 26) hX0 hB0 dX12_near_77 (by decide) ?_
                exact ih26 (i26 + 1) S71 ⟨⟨by omega, by omega⟩, (zfor_s _ _ _ (by omega)).trans ((congrArg (zm_near_L26 i16 i26) hz26).trans (by unfold zm_near_L26; exact zlet_e e37 (zlet_e e48 (zlet_e e52 (zlet_e e59 (zif_f c_62 (zlet_e e71 rfl))))))), hI71, fun kk ii hk => (((((show S71 kk ii = S59 kk ii from by rw [← e71]; exact za_ne (by omega))).trans (hf59 kk ii (by omega))).trans (show S52 kk ii = S37 kk ii from by rw [← e52]; exact za_ne (by omega))).trans (hf37 kk ii (by omega))).trans (hf26 kk ii (by omega)), (by rw [show S71 11 = S59 11 from funext (fun ii => (show S71 11 ii = S59 11 ii from by rw [← e71]; exact za_ne (by omega))), show S71 0 23 = S59 0 23 from (show S71 0 23 = S59 0 23 from by rw [← e71]; exact za_ne (by omega)), show S71 0 24 = S59 0 24 from (show S71 0 24 = S59 0 24 from by rw [← e71]; exact za_ne (by omega))]; exact hq59.2.2)⟩ (by omega) H locs ls hW (lv_sub hl [0, 1, 2, 3, 4, 5] rfl)
        exact hL26 _ 0 S16 ⟨⟨by omega, by omega⟩, zfor_0 _ _ _, hI16, fun kk ii hk => rfl, hv16⟩ (Nat.lt_succ_self _) H locs ls hW (lv_sub hl [0, 1, 2, 3, 4, 5] rfl)
  exact hL16 _ 0 S5 ⟨⟨by omega, by omega⟩, zfor_0 _ _ _, hI5, fun kk ii hk => rfl, by omega⟩ (Nat.lt_succ_self _) H locs ls hW (lv_sub hl [0, 1, 2, 3, 4] rfl)
def zm_areOn (S : zS2) (a : Int) (b : Int) (pt : Int) : Int := zlet (zm_valueAt S a pt) (fun z3 => (if z3 = 0 then zlet (zm_valueAt S b pt) (fun z12 => (if z12 = 0 then 1 else 0)) else 0))
set_option maxRecDepth 100000 in
set_option maxHeartbeats 4000000 in
theorem zk_areOn (l : Launch) {D : va_G} {cI cJ cZ cP cS cM : ClassId} {L : List Nat} {sz : Nat} {f : Nat → va_E} (o : Nat) (S : zS2) (a : Int) (b : Int) (pt : Int) (hI : mI S) (ha : 0 ≤ a ∧ a ≤ 5) (hb : 0 ≤ b ∧ b ≤ 5) (hpt : 0 ≤ pt ∧ pt ≤ 992) : zMi l yX12_areOn wsX12_areOn 4 99 D (zT cI cJ cZ cP cS cM) L sz (zMO cI cJ o S f) [.ref o, .int (zI a), .int (zI b), .int (zI pt)] (fun zv gv => zv = zm_areOn S a b pt ∧ gv = zMO cI cJ o S f ∧ 0 ≤ zv ∧ zv ≤ 1) := by
  refine zWalk.met (nL := 4) (ret := (some .boolean)) (cc := cX12_areOn) (by decide) rfl (Nat.le_of_ble_eq_true rfl) ?_
  intro pg en st mi ag bl mt cd ls CX hW hl
  have CX : zC pg st mi ag mt cd cX12_areOn 4 (some .boolean) RX12 wsX12_areOn := CX
  generalize hQ : MQ bl _ ag st 0 0 _ = Q
  have hX0 := CX.1
  have hB0 := CX.2.1
  have hl : lv_has ls 4 [(0, .ref o), (1, .int (zI a)), (2, .int (zI b)), (3, .int (zI pt))] := hl
  obtain ⟨H, eH⟩ : ∃ H, H = st.heap := ⟨_, rfl⟩
  obtain ⟨locs, eL⟩ : ∃ L : List Loc, L = [] := ⟨_, rfl⟩
  have hW : zW D (zT cI cJ cZ cP cS cM) L (zQ L sz) st (zMO cI cJ o S f) st.heap H locs := by rw [eH, eL]; exact hW
  suffices hgo : W pg l en ({ frames := 4, cells := 0, slots := 0, locals := 99 } : Room) st mi ag bl mt cd H locs 0 0 Q (F0 mi 0 ls []) by rw [eH, eL] at hgo; exact hgo
  clear eH eL
  have hpb := hI.s10
  refine lv_aload_n hX0 hB0 dX12_areOn_0 rfl (lv_at hl 0 rfl) ?_
  refine lv_iload_n hX0 hB0 dX12_areOn_1 rfl (lv_at hl 1 rfl) ?_
  refine lv_iload_n hX0 hB0 dX12_areOn_2 rfl (lv_at hl 3 rfl) ?_
  refine z_calli hW (va_runV (C := RX12) (As := [.int (zI a), .int (zI pt)]) (rest := []) CX.fix (zk_valueAt l o S a pt hI (by constructor <;> omega) (by constructor <;> omega)) (cwV 2 CX.fix.2.2.2.2 gX12_areOn_X12_valueAt rfl rfl rfl (by decide +kernel) ⟨Nat.le_of_ble_eq_true rfl, Nat.le_of_ble_eq_true rfl⟩) (z_preV CX hW (r := (RX12, TX12, 37)) zMO_0 rfl) rfl rfl hl.1 rfl (lv_room (Nat.le_of_ble_eq_true rfl)) dX12_areOn_3 ⟨Nat.zero_le _, Nat.zero_le _⟩) (fun z3 gn H locs hok hW => ?_)
  obtain ⟨hz3, hg, hq3⟩ := hok
  rw [hg] at hW
  clear hg
  have e3 : zm_valueAt S a pt = z3 := hz3.symm
  clear hz3
  refine z_if_ne (tgt := 22) CX dX12_areOn_6 (by decide) (by constructor <;> omega) (fun c_6 => ?_) (fun c_6 => ?_)
  ·
    refine lv_iconst (v := zI 0) hX0 hB0 dX12_areOn_22 rfl ?_
    have hE : zm_areOn S a b pt = 0 := by unfold zm_areOn; exact zlet_e e3 (zif_f c_6 rfl)
    rw [← hQ]
    exact z_iret (z := 0) CX hW (by rw [hE]; exact ⟨rfl, rfl, (show 0 ≤ (0 : Int) ∧ (0 : Int) ≤ 1 from by omega)⟩) rfl dX12_areOn_23
  ·
    refine lv_aload_n hX0 hB0 dX12_areOn_9 rfl (lv_at hl 0 rfl) ?_
    refine lv_iload_n hX0 hB0 dX12_areOn_10 rfl (lv_at hl 2 rfl) ?_
    refine lv_iload_n hX0 hB0 dX12_areOn_11 rfl (lv_at hl 3 rfl) ?_
    refine z_calli hW (va_runV (C := RX12) (As := [.int (zI b), .int (zI pt)]) (rest := []) CX.fix (zk_valueAt l o S b pt hI (by constructor <;> omega) (by constructor <;> omega)) (cwV 2 CX.fix.2.2.2.2 gX12_areOn_X12_valueAt rfl rfl rfl (by decide +kernel) ⟨Nat.le_of_ble_eq_true rfl, Nat.le_of_ble_eq_true rfl⟩) (z_preV CX hW (r := (RX12, TX12, 37)) zMO_0 rfl) rfl rfl hl.1 rfl (lv_room (Nat.le_of_ble_eq_true rfl)) dX12_areOn_12 ⟨Nat.zero_le _, Nat.zero_le _⟩) (fun z12 gn H locs hok hW => ?_)
    obtain ⟨hz12, hg, hq12⟩ := hok
    rw [hg] at hW
    clear hg
    have e12 : zm_valueAt S b pt = z12 := hz12.symm
    clear hz12
    refine z_if_ne (tgt := 22) CX dX12_areOn_15 (by decide) (by constructor <;> omega) (fun c_15 => ?_) (fun c_15 => ?_)
    ·
      refine lv_iconst (v := zI 0) hX0 hB0 dX12_areOn_22 rfl ?_
      have hE : zm_areOn S a b pt = 0 := by unfold zm_areOn; exact zlet_e e3 (zif_t c_6 (zlet_e e12 (zif_f c_15 rfl)))
      rw [← hQ]
      exact z_iret (z := 0) CX hW (by rw [hE]; exact ⟨rfl, rfl, (show 0 ≤ (0 : Int) ∧ (0 : Int) ≤ 1 from by omega)⟩) rfl dX12_areOn_23
    ·
      refine lv_iconst (v := zI 1) hX0 hB0 dX12_areOn_18 rfl ?_
      refine lv_goto (tgt := 23) hX0 hB0 dX12_areOn_19 (by decide) ?_
      have hE : zm_areOn S a b pt = 1 := by unfold zm_areOn; exact zlet_e e3 (zif_t c_6 (zlet_e e12 (zif_t c_15 rfl)))
      rw [← hQ]
      exact z_iret (z := 1) CX hW (by rw [hE]; exact ⟨rfl, rfl, (show 0 ≤ (1 : Int) ∧ (1 : Int) ≤ 1 from by omega)⟩) rfl dX12_areOn_23
def zm_timesAmong_W6 (a : Int) (b : Int) (to_ : Int) : Nat → Int → Int → zS2 → (Int × zS2) ⊕ (Int × Int × zS2)
  | 0, s6, p6, S6 => .inr (s6, p6, S6)
  | fu6 + 1, s6, p6, S6 => (if to_ ≤ p6 then .inr (s6, p6, S6) else zlet (zm_areOn S6 a b p6) (fun z18 => (if z18 = 0 then zm_timesAmong_W6 a b to_ fu6 s6 (p6 + 1) S6 else zlet (zm_timesAt S6 a b p6) (fun q32 => (fun (z32 : Int) (S32 : zS2) => (if z32 = -2 then .inl ((-2, S32)) else zm_timesAmong_W6 a b to_ fu6 (s6 + z32) (p6 + 1) S32)) q32.1 q32.2))))
def zm_timesAmong (S : zS2) (a : Int) (b : Int) (from_ : Int) (to_ : Int) : Int × zS2 := zsum (zm_timesAmong_W6 a b to_ ((995 : Nat)) 0 from_ S) (fun r6 => r6) (fun q6 => (fun (s6 : Int) (p6 : Int) (S6 : zS2) => (s6, S6)) q6.1 q6.2.1 q6.2.2)
set_option maxRecDepth 100000 in
set_option maxHeartbeats 4000000 in
theorem zk_timesAmong (l : Launch) {D : va_G} {cI cJ cZ cP cS cM : ClassId} {L : List Nat} {sz : Nat} {f : Nat → va_E} (o : Nat) (S : zS2) (a : Int) (b : Int) (from_ : Int) (to_ : Int) (hI : mI S) (ha : 0 ≤ a ∧ a ≤ 5) (hb : 0 ≤ b ∧ b ≤ 5) (hfrom_ : 0 ≤ from_ ∧ from_ ≤ 993) (hto_ : 0 ≤ to_ ∧ to_ ≤ 993) (hH : zqH S) (hab : a < S 0 13 ∧ b < S 0 13) (hft : from_ ≤ to_) (hto : to_ ≤ S 0 10 * S 0 10 + S 0 10 + 1) : zMi l yX12_timesAmong wsX12_timesAmong 7 180 D (zT cI cJ cZ cP cS cM) L sz (zMO cI cJ o S f) [.ref o, .int (zI a), .int (zI b), .int (zI from_), .int (zI to_)] (fun zv gv => zv = (zm_timesAmong S a b from_ to_).1 ∧ gv = zMO cI cJ o (zm_timesAmong S a b from_ to_).2 f ∧ mI (zm_timesAmong S a b from_ to_).2 ∧ (∀ kk ii : Nat, ¬ (kk = 0 ∧ ii = 33) ∧ ¬ kk = 13 ∧ ¬ kk = 14 ∧ ¬ kk = 15 ∧ ¬ kk = 16 ∧ ¬ kk = 17 ∧ ¬ kk = 18 ∧ ¬ kk = 19 ∧ ¬ (kk = 3 ∧ 3500 ≤ (ii : Int)) → (zm_timesAmong S a b from_ to_).2 kk ii = S kk ii) ∧ -4000000 ≤ zv ∧ zv ≤ 64000000) := by
  refine zWalk.met (nL := 8) (ret := (some .int)) (cc := cX12_timesAmong) (by decide) rfl (Nat.le_of_ble_eq_true rfl) ?_
  intro pg en st mi ag bl mt cd ls CX hW hl
  have CX : zC pg st mi ag mt cd cX12_timesAmong 8 (some .int) RX12 wsX12_timesAmong := CX
  generalize hQ : MQ bl _ ag st 0 0 _ = Q
  have hX0 := CX.1
  have hB0 := CX.2.1
  have hl : lv_has ls 8 [(0, .ref o), (1, .int (zI a)), (2, .int (zI b)), (3, .int (zI from_)), (4, .int (zI to_))] := hl
  obtain ⟨H, eH⟩ : ∃ H, H = st.heap := ⟨_, rfl⟩
  obtain ⟨locs, eL⟩ : ∃ L : List Loc, L = [] := ⟨_, rfl⟩
  have hW : zW D (zT cI cJ cZ cP cS cM) L (zQ L sz) st (zMO cI cJ o S f) st.heap H locs := by rw [eH, eL]; exact hW
  suffices hgo : W pg l en ({ frames := 7, cells := 0, slots := 0, locals := 180 } : Room) st mi ag bl mt cd H locs 0 0 Q (F0 mi 0 ls []) by rw [eH, eL] at hgo; exact hgo
  clear eH eL
  have hpb := hI.s10
  refine lv_iconst (v := zI 0) hX0 hB0 dX12_timesAmong_0 rfl ?_
  refine lv_istore (lv' := [(5, .int (zI 0)), (0, .ref o), (1, .int (zI a)), (2, .int (zI b)), (3, .int (zI from_)), (4, .int (zI to_))]) hX0 hB0 dX12_timesAmong_1 hl (by decide) rfl (fun ls hl => ?_)
  refine lv_iload_n hX0 hB0 dX12_timesAmong_3 rfl (lv_at hl 4 rfl) ?_
  refine lv_istore (lv' := [(6, .int (zI from_)), (5, .int (zI 0)), (0, .ref o), (1, .int (zI a)), (2, .int (zI b)), (3, .int (zI from_)), (4, .int (zI to_))]) hX0 hB0 dX12_timesAmong_4 hl (by decide) rfl (fun ls hl => ?_)
  have hXt6 : ∀ (s6 : Int) (p6 : Int) (S6 : zS2), (zm_timesAmong_W6 a b to_ ((995 : Nat)) 0 from_ S = .inr (s6, p6, S6) ∧ mI S6 ∧ (∀ kk ii : Nat, ¬ (kk = 0 ∧ ii = 33) ∧ ¬ kk = 13 ∧ ¬ kk = 14 ∧ ¬ kk = 15 ∧ ¬ kk = 16 ∧ ¬ kk = 17 ∧ ¬ kk = 18 ∧ ¬ kk = 19 ∧ ¬ (kk = 3 ∧ 3500 ≤ (ii : Int)) → S6 kk ii = S kk ii) ∧ 0 ≤ p6 ∧ p6 ≤ 993 ∧ (from_ ≤ p6 ∧ p6 ≤ to_ ∧ -4000 * p6 ≤ s6 ∧ s6 ≤ 64000 * p6)) → ∀ (H : Heap) (locs : List Loc) (ls : Array Slot), zW D (zT cI cJ cZ cP cS cM) L (zQ L sz) st (zMO cI cJ o S6 f) st.heap H locs → lv_has ls 8 [(5, .int (zI s6)), (6, .int (zI p6)), (0, .ref o), (1, .int (zI a)), (2, .int (zI b)), (3, .int (zI from_)), (4, .int (zI to_))] → W pg l en ({ frames := 7, cells := 0, slots := 0, locals := 180 } : Room) st mi ag bl mt cd H locs 0 0 Q (F0 mi 60 ls []) := by
    intro s6 p6 S6 hinv H locs ls hW hl
    obtain ⟨e6, hI6, hf6, hap6, hbp6, hv6⟩ := hinv
    have hp6 := hI6.s10
    have t6_10 : S6 0 10 = S 0 10 := hf6 0 10 (by omega)
    have t6_13 : S6 0 13 = S 0 13 := hf6 0 13 (by omega)
    refine lv_iload hX0 hB0 dX12_timesAmong_60 (lv_at hl 0 rfl) ?_
    have hE : zm_timesAmong S a b from_ to_ = (s6, S6) := by unfold zm_timesAmong; exact zsum_r e6 rfl
    have hFr : ∀ kk ii : Nat, ¬ (kk = 0 ∧ ii = 33) ∧ ¬ kk = 13 ∧ ¬ kk = 14 ∧ ¬ kk = 15 ∧ ¬ kk = 16 ∧ ¬ kk = 17 ∧ ¬ kk = 18 ∧ ¬ kk = 19 ∧ ¬ (kk = 3 ∧ 3500 ≤ (ii : Int)) → S6 kk ii = S kk ii := fun kk ii hk => (hf6 kk ii (by omega))
    rw [← hQ]
    exact z_iret (z := s6) CX hW (by rw [hE]; exact ⟨rfl, rfl, hI6, hFr, (show -4000000 ≤ s6 ∧ s6 ≤ 64000000 from by omega)⟩) rfl dX12_timesAmong_62
  have hL6 : ∀ (fu : Nat) (s6 : Int) (p6 : Int) (S6 : zS2), (zm_timesAmong_W6 a b to_ ((995 : Nat)) 0 from_ S = zm_timesAmong_W6 a b to_ fu s6 p6 S6 ∧ mI S6 ∧ (∀ kk ii : Nat, ¬ (kk = 0 ∧ ii = 33) ∧ ¬ kk = 13 ∧ ¬ kk = 14 ∧ ¬ kk = 15 ∧ ¬ kk = 16 ∧ ¬ kk = 17 ∧ ¬ kk = 18 ∧ ¬ kk = 19 ∧ ¬ (kk = 3 ∧ 3500 ≤ (ii : Int)) → S6 kk ii = S kk ii) ∧ 0 ≤ p6 ∧ p6 ≤ 993 ∧ (from_ ≤ p6 ∧ p6 ≤ to_ ∧ -4000 * p6 ≤ s6 ∧ s6 ≤ 64000 * p6)) → (994 - p6).toNat < fu → ∀ (H : Heap) (locs : List Loc) (ls : Array Slot), zW D (zT cI cJ cZ cP cS cM) L (zQ L sz) st (zMO cI cJ o S6 f) st.heap H locs → lv_has ls 8 [(5, .int (zI s6)), (6, .int (zI p6)), (0, .ref o), (1, .int (zI a)), (2, .int (zI b)), (3, .int (zI from_)), (4, .int (zI to_))] → W pg l en ({ frames := 7, cells := 0, slots := 0, locals := 180 } : Room) st mi ag bl mt cd H locs 0 0 Q (F0 mi 6 ls []) := by
    intro fu
    induction fu with
    | zero => intro s6 p6 S6 _ hfu; exact absurd hfu (Nat.not_lt_zero _)
    | succ fu ih6 =>
      intro s6 p6 S6 hinv hfu6 H locs ls hW hl
      obtain ⟨hz6, hI6, hf6, hap6, hbp6, hv6⟩ := hinv
      have hp6 := hI6.s10
      have t6_10 : S6 0 10 = S 0 10 := hf6 0 10 (by omega)
      have t6_13 : S6 0 13 = S 0 13 := hf6 0 13 (by omega)
      refine lv_iload hX0 hB0 dX12_timesAmong_6 (lv_at hl 1 rfl) ?_
      refine lv_iload hX0 hB0 dX12_timesAmong_8 (lv_at hl 6 rfl) ?_
      refine z_icmp_ge (tgt := 60) CX dX12_timesAmong_10 (by decide) (by constructor <;> omega) (by constructor <;> omega) (fun c_10 => ?_) (fun c_10 => ?_)
      ·
        exact hXt6 s6 p6 S6 ⟨hz6.trans (by rw [zm_timesAmong_W6]; exact zif_t c_10 rfl), hI6, fun kk ii hk => (hf6 kk ii (by omega)), by omega, by omega, ⟨by omega, by omega, by omega, by omega⟩⟩ H locs ls hW (lv_sub hl [0, 1, 2, 3, 4, 5, 6] rfl)
      ·
        have d_10 : ¬ to_ ≤ p6 := by omega
        refine lv_aload_n hX0 hB0 dX12_timesAmong_13 rfl (lv_at hl 2 rfl) ?_
        refine lv_iload_n hX0 hB0 dX12_timesAmong_14 rfl (lv_at hl 3 rfl) ?_
        refine lv_iload_n hX0 hB0 dX12_timesAmong_15 rfl (lv_at hl 4 rfl) ?_
        refine lv_iload hX0 hB0 dX12_timesAmong_16 (lv_at hl 1 rfl) ?_
        refine z_calli hW (va_runV (C := RX12) (As := [.int (zI a), .int (zI b), .int (zI p6)]) (rest := []) CX.fix (zk_areOn l o S6 a b p6 hI6 (by constructor <;> omega) (by constructor <;> omega) (by constructor <;> omega)) (cwV 3 CX.fix.2.2.2.2 gX12_timesAmong_X12_areOn rfl rfl rfl (by decide +kernel) ⟨Nat.le_of_ble_eq_true rfl, Nat.le_of_ble_eq_true rfl⟩) (z_preV CX hW (r := (RX12, TX12, 37)) zMO_0 rfl) rfl rfl hl.1 rfl (lv_room (Nat.le_of_ble_eq_true rfl)) dX12_timesAmong_18 ⟨Nat.zero_le _, Nat.zero_le _⟩) (fun z18 gn H locs hok hW => ?_)
        obtain ⟨hz18, hg, hq18⟩ := hok
        rw [hg] at hW
        clear hg
        have e18 : zm_areOn S6 a b p6 = z18 := hz18.symm
        clear hz18
        refine z_if_ne (tgt := 27) CX dX12_timesAmong_21 (by decide) (by constructor <;> omega) (fun c_21 => ?_) (fun c_21 => ?_)
        ·
          refine lv_aload_n hX0 hB0 dX12_timesAmong_27 rfl (lv_at hl 2 rfl) ?_
          refine lv_iload_n hX0 hB0 dX12_timesAmong_28 rfl (lv_at hl 3 rfl) ?_
          refine lv_iload_n hX0 hB0 dX12_timesAmong_29 rfl (lv_at hl 4 rfl) ?_
          refine lv_iload hX0 hB0 dX12_timesAmong_30 (lv_at hl 1 rfl) ?_
          have hFc32 : ∀ kk ii : Nat, ¬ (kk = 0 ∧ ii = 33) ∧ ¬ kk = 13 ∧ ¬ kk = 14 ∧ ¬ kk = 15 ∧ ¬ kk = 16 ∧ ¬ kk = 17 ∧ ¬ kk = 18 ∧ ¬ kk = 19 ∧ ¬ (kk = 3 ∧ 3500 ≤ (ii : Int)) → S6 kk ii = S kk ii := fun kk ii hk => (hf6 kk ii (by omega))
          refine z_calli hW (va_runV (C := RX12) (As := [.int (zI a), .int (zI b), .int (zI p6)]) (rest := []) CX.fix (zk_timesAt l o S6 a b p6 hI6 (by constructor <;> omega) (by constructor <;> omega) (by constructor <;> omega) (hH.mono (hFc32 0 10 (by omega)) (hFc32 0 13 (by omega)) (fun qq hqq => hFc32 3 qq (by omega))) (by omega) (by rw [t6_10]; omega)) (cwV 3 CX.fix.2.2.2.2 gX12_timesAmong_X12_timesAt rfl rfl rfl (by decide +kernel) ⟨Nat.le_of_ble_eq_true rfl, Nat.le_of_ble_eq_true rfl⟩) (z_preV CX hW (r := (RX12, TX12, 37)) zMO_0 rfl) rfl rfl hl.1 rfl (lv_room (Nat.le_of_ble_eq_true rfl)) dX12_timesAmong_32 ⟨Nat.zero_le _, Nat.zero_le _⟩) (fun z32 gn H locs hok hW => ?_)
          obtain ⟨hz32, hg, hI32, hf32, hq32⟩ := hok
          obtain ⟨S32, hS32⟩ : ∃ q, q = (zm_timesAt S6 a b p6).2 := ⟨_, rfl⟩
          rw [← hS32] at hg hI32 hf32
          have t32_10 : S32 0 10 = S6 0 10 := hf32 0 10 (by omega)
          have t32_13 : S32 0 13 = S6 0 13 := hf32 0 13 (by omega)
          skip
          try rw [← hS32] at hq32
          rw [hg] at hW
          clear hg
          have e32 : zm_timesAt S6 a b p6 = (z32, S32) := Prod.ext hz32.symm hS32.symm
          clear hz32 hS32
          refine lv_istore (lv' := [(7, .int (zI z32)), (5, .int (zI s6)), (6, .int (zI p6)), (0, .ref o), (1, .int (zI a)), (2, .int (zI b)), (3, .int (zI from_)), (4, .int (zI to_))]) hX0 hB0 dX12_timesAmong_35 hl (by decide) rfl (fun ls hl => ?_)
          refine lv_iload hX0 hB0 dX12_timesAmong_37 (lv_at hl 0 rfl) ?_
          refine lv_bipush (v := zI (-2)) hX0 hB0 dX12_timesAmong_39 (by decide) ?_
          refine z_icmp_ne (tgt := 47) CX dX12_timesAmong_41 (by decide) (by constructor <;> omega) (by constructor <;> omega) (fun c_41 => ?_) (fun c_41 => ?_)
          ·
            refine lv_iload hX0 hB0 dX12_timesAmong_47 (lv_at hl 1 rfl) ?_
            refine lv_iload hX0 hB0 dX12_timesAmong_49 (lv_at hl 0 rfl) ?_
            refine z_iadd (z := s6 + z32) CX dX12_timesAmong_51 rfl ?_
            refine lv_istore (lv' := [(5, .int (zI (s6 + z32))), (7, .int (zI z32)), (6, .int (zI p6)), (0, .ref o), (1, .int (zI a)), (2, .int (zI b)), (3, .int (zI from_)), (4, .int (zI to_))]) hX0 hB0 dX12_timesAmong_52 hl (by decide) rfl (fun ls hl => ?_)
            refine lv_iinc (v := zI (p6 + 1)) (lv' := [(6, .int (zI (p6 + 1))), (5, .int (zI (s6 + z32))), (7, .int (zI z32)), (0, .ref o), (1, .int (zI a)), (2, .int (zI b)), (3, .int (zI from_)), (4, .int (zI to_))]) hX0 hB0 dX12_timesAmong_54 hl (k := 2) rfl (zI_add _ _) (by decide) rfl (fun ls hl => ?_)
            refine lv_goto (tgt := 6) hX0 hB0 dX12_timesAmong_57 (by decide) ?_
            exact ih6 (s6 + z32) (p6 + 1) S32 ⟨hz6.trans (by rw [zm_timesAmong_W6]; exact zif_f d_10 (zlet_e e18 (zif_f c_21 (zlet_e e32 (zif_f c_41 rfl))))), hI32, fun kk ii hk => ((hf32 kk ii (by omega))).trans (hf6 kk ii (by omega)), by omega, by omega, ⟨by omega, by omega, by omega, by omega⟩⟩ (by omega) H locs ls hW (lv_sub hl [1, 0, 3, 4, 5, 6, 7] rfl)
          ·
            refine lv_bipush (v := zI (-2)) hX0 hB0 dX12_timesAmong_44 (by decide) ?_
            have hE : zm_timesAmong S a b from_ to_ = (-2, S32) := by unfold zm_timesAmong; exact zsum_l (hz6.trans (by rw [zm_timesAmong_W6]; exact zif_f d_10 (zlet_e e18 (zif_f c_21 (zlet_e e32 (zif_t c_41 rfl)))))) rfl
            have hFr : ∀ kk ii : Nat, ¬ (kk = 0 ∧ ii = 33) ∧ ¬ kk = 13 ∧ ¬ kk = 14 ∧ ¬ kk = 15 ∧ ¬ kk = 16 ∧ ¬ kk = 17 ∧ ¬ kk = 18 ∧ ¬ kk = 19 ∧ ¬ (kk = 3 ∧ 3500 ≤ (ii : Int)) → S32 kk ii = S kk ii := fun kk ii hk => ((hf32 kk ii (by omega))).trans (hf6 kk ii (by omega))
            rw [← hQ]
            exact z_iret (z := -2) CX hW (by rw [hE]; exact ⟨rfl, rfl, hI32, hFr, (show -4000000 ≤ (-2 : Int) ∧ (-2 : Int) ≤ 64000000 from by omega)⟩) rfl dX12_timesAmong_46
        ·
          refine lv_goto (tgt := 54) hX0 hB0 dX12_timesAmong_24 (by decide) ?_
          refine lv_iinc (v := zI (p6 + 1)) (lv' := [(6, .int (zI (p6 + 1))), (5, .int (zI s6)), (0, .ref o), (1, .int (zI a)), (2, .int (zI b)), (3, .int (zI from_)), (4, .int (zI to_))]) hX0 hB0 dX12_timesAmong_54 hl (k := 1) rfl (zI_add _ _) (by decide) rfl (fun ls hl => ?_)
          refine lv_goto (tgt := 6) hX0 hB0 dX12_timesAmong_57 (by decide) ?_
          exact ih6 s6 (p6 + 1) S6 ⟨hz6.trans (by rw [zm_timesAmong_W6]; exact zif_f d_10 (zlet_e e18 (zif_t c_21 rfl))), hI6, fun kk ii hk => (hf6 kk ii (by omega)), by omega, by omega, ⟨by omega, by omega, by omega, by omega⟩⟩ (by omega) H locs ls hW (lv_sub hl [1, 0, 2, 3, 4, 5, 6] rfl)
  exact hL6 _ 0 from_ S ⟨rfl, hI, fun kk ii hk => rfl, by omega, by omega, ⟨by omega, by omega, by omega, by omega⟩⟩ (by omega) H locs ls hW (lv_sub hl [1, 0, 2, 3, 4, 5, 6] rfl)
def zm_meet_W55 (S : zS2) (a : Int) (b : Int) (k : Int) (what : Int) : Nat → Int → Int → (Int × zS2) ⊕ (Int × Int)
  | 0, n55, p55 => .inr (n55, p55)
  | fu55 + 1, n55, p55 => zlet (zm_points S) (fun z58 => (if z58 ≤ p55 then .inr (n55, p55) else zlet (zm_areOn S a b p55) (fun z69 => (if z69 = 0 then zm_meet_W55 S a b k what fu55 n55 (p55 + 1) else (if n55 = k then (if what = 0 then .inl ((p55, S)) else zlet (zm_timesAt S a b p55) (fun q99 => (fun (z99 : Int) (S99 : zS2) => .inl ((z99, S99))) q99.1 q99.2)) else zm_meet_W55 S a b k what fu55 (n55 + 1) (p55 + 1))))))
def zm_meet (S : zS2) (a : Int) (b : Int) (k : Int) (what : Int) : Int × zS2 := zlet (zm_areCurves S a b) (fun z3 => (if z3 = 0 then (-1, S) else (if k < -1 then (-1, S) else zlet (zm_isIn what 0 1) (fun z18 => (if z18 = 0 then (-1, S) else (if k = -1 then (if what = 1 then zlet (zm_points S) (fun z42 => zlet (zm_timesAmong S a b 0 z42) (fun q45 => (fun (z45 : Int) (S45 : zS2) => (z45, S45)) q45.1 q45.2)) else zsum (zm_meet_W55 S a b k what ((995 : Nat)) 0 0) (fun r55 => r55) (fun q55 => (fun (n55 : Int) (p55 : Int) => (if k = -1 then (n55, S) else (-1, S))) q55.1 q55.2)) else zsum (zm_meet_W55 S a b k what ((995 : Nat)) 0 0) (fun r55 => r55) (fun q55 => (fun (n55 : Int) (p55 : Int) => (if k = -1 then (n55, S) else (-1, S))) q55.1 q55.2)))))))
set_option maxRecDepth 100000 in
set_option maxHeartbeats 4000000 in
theorem zk_meet (l : Launch) {D : va_G} {cI cJ cZ cP cS cM : ClassId} {L : List Nat} {sz : Nat} {f : Nat → va_E} (o : Nat) (S : zS2) (a : Int) (b : Int) (k : Int) (what : Int) (hI : mI S) (ha : -2147483648 ≤ a ∧ a ≤ 2147483647) (hb : -2147483648 ≤ b ∧ b ≤ 2147483647) (hk : -2147483648 ≤ k ∧ k ≤ 2147483647) (hwhat : -2147483648 ≤ what ∧ what ≤ 2147483647) (hH : zqH S) : zMi l yX12_meet wsX12_meet 8 207 D (zT cI cJ cZ cP cS cM) L sz (zMO cI cJ o S f) [.ref o, .int (zI a), .int (zI b), .int (zI k), .int (zI what)] (fun zv gv => zv = (zm_meet S a b k what).1 ∧ gv = zMO cI cJ o (zm_meet S a b k what).2 f ∧ mI (zm_meet S a b k what).2 ∧ (∀ kk ii : Nat, ¬ (kk = 0 ∧ ii = 33) ∧ ¬ kk = 13 ∧ ¬ kk = 14 ∧ ¬ kk = 15 ∧ ¬ kk = 16 ∧ ¬ kk = 17 ∧ ¬ kk = 18 ∧ ¬ kk = 19 ∧ ¬ (kk = 3 ∧ 3500 ≤ (ii : Int)) → (zm_meet S a b k what).2 kk ii = S kk ii) ∧ True) := by
  refine zWalk.met (nL := 7) (ret := (some .int)) (cc := cX12_meet) (by decide) rfl (Nat.le_of_ble_eq_true rfl) ?_
  intro pg en st mi ag bl mt cd ls CX hW hl
  have CX : zC pg st mi ag mt cd cX12_meet 7 (some .int) RX12 wsX12_meet := CX
  generalize hQ : MQ bl _ ag st 0 0 _ = Q
  have hX0 := CX.1
  have hB0 := CX.2.1
  have hl : lv_has ls 7 [(0, .ref o), (1, .int (zI a)), (2, .int (zI b)), (3, .int (zI k)), (4, .int (zI what))] := hl
  obtain ⟨H, eH⟩ : ∃ H, H = st.heap := ⟨_, rfl⟩
  obtain ⟨locs, eL⟩ : ∃ L : List Loc, L = [] := ⟨_, rfl⟩
  have hW : zW D (zT cI cJ cZ cP cS cM) L (zQ L sz) st (zMO cI cJ o S f) st.heap H locs := by rw [eH, eL]; exact hW
  suffices hgo : W pg l en ({ frames := 8, cells := 0, slots := 0, locals := 207 } : Room) st mi ag bl mt cd H locs 0 0 Q (F0 mi 0 ls []) by rw [eH, eL] at hgo; exact hgo
  clear eH eL
  have hpb := hI.s10
  refine lv_aload_n hX0 hB0 dX12_meet_0 rfl (lv_at hl 0 rfl) ?_
  refine lv_iload_n hX0 hB0 dX12_meet_1 rfl (lv_at hl 1 rfl) ?_
  refine lv_iload_n hX0 hB0 dX12_meet_2 rfl (lv_at hl 2 rfl) ?_
  refine z_calli hW (va_runV (C := RX12) (As := [.int (zI a), .int (zI b)]) (rest := []) CX.fix (zk_areCurves l o S a b hI (by constructor <;> omega) (by constructor <;> omega)) (cwV 2 CX.fix.2.2.2.2 gX12_meet_X12_areCurves rfl rfl rfl (by decide +kernel) ⟨Nat.le_of_ble_eq_true rfl, Nat.le_of_ble_eq_true rfl⟩) (z_preV CX hW (r := (RX12, TX12, 37)) zMO_0 rfl) rfl rfl hl.1 rfl (lv_room (Nat.le_of_ble_eq_true rfl)) dX12_meet_3 ⟨Nat.zero_le _, Nat.zero_le _⟩) (fun z3 gn H locs hok hW => ?_)
  obtain ⟨hz3, hg, hq3⟩ := hok
  rw [hg] at hW
  clear hg
  have e3 : zm_areCurves S a b = z3 := hz3.symm
  clear hz3
  refine z_if_eq (tgt := 24) CX dX12_meet_6 (by decide) (by constructor <;> omega) (fun c_6 => ?_) (fun c_6 => ?_)
  ·
    refine lv_iconst (v := zI (-1)) hX0 hB0 dX12_meet_24 rfl ?_
    have hE : zm_meet S a b k what = (-1, S) := by unfold zm_meet; exact zlet_e e3 (zif_t c_6 rfl)
    have hFr : ∀ kk ii : Nat, ¬ (kk = 0 ∧ ii = 33) ∧ ¬ kk = 13 ∧ ¬ kk = 14 ∧ ¬ kk = 15 ∧ ¬ kk = 16 ∧ ¬ kk = 17 ∧ ¬ kk = 18 ∧ ¬ kk = 19 ∧ ¬ (kk = 3 ∧ 3500 ≤ (ii : Int)) → S kk ii = S kk ii := fun kk ii hk => rfl
    rw [← hQ]
    exact z_iret (z := -1) CX hW (by rw [hE]; exact ⟨rfl, rfl, hI, hFr, trivial⟩) rfl dX12_meet_25
  ·
    refine lv_iload_n hX0 hB0 dX12_meet_9 rfl (lv_at hl 3 rfl) ?_
    refine lv_iconst (v := zI (-1)) hX0 hB0 dX12_meet_10 rfl ?_
    refine z_icmp_lt (tgt := 24) CX dX12_meet_11 (by decide) (by constructor <;> omega) (by constructor <;> omega) (fun c_11 => ?_) (fun c_11 => ?_)
    ·
      refine lv_iconst (v := zI (-1)) hX0 hB0 dX12_meet_24 rfl ?_
      have hE : zm_meet S a b k what = (-1, S) := by unfold zm_meet; exact zlet_e e3 (zif_f c_6 (zif_t c_11 rfl))
      have hFr : ∀ kk ii : Nat, ¬ (kk = 0 ∧ ii = 33) ∧ ¬ kk = 13 ∧ ¬ kk = 14 ∧ ¬ kk = 15 ∧ ¬ kk = 16 ∧ ¬ kk = 17 ∧ ¬ kk = 18 ∧ ¬ kk = 19 ∧ ¬ (kk = 3 ∧ 3500 ≤ (ii : Int)) → S kk ii = S kk ii := fun kk ii hk => rfl
      rw [← hQ]
      exact z_iret (z := -1) CX hW (by rw [hE]; exact ⟨rfl, rfl, hI, hFr, trivial⟩) rfl dX12_meet_25
    ·
      have d_11 : ¬ k < -1 := by omega
      refine lv_iload hX0 hB0 dX12_meet_14 (lv_at hl 4 rfl) ?_
      refine lv_iconst (v := zI 0) hX0 hB0 dX12_meet_16 rfl ?_
      refine lv_iconst (v := zI 1) hX0 hB0 dX12_meet_17 rfl ?_
      refine z_calli hW (va_runS (As := [.int (zI what), .int (zI 0), .int (zI 1)]) (rest := []) CX.fix (zk_isIn l (f := zMO cI cJ o S f) what 0 1 (by constructor <;> omega) (by constructor <;> omega) (by constructor <;> omega)) (va_cwS 3 CX.fix.2.2.2.2 gX12_meet_X12_isIn rfl rfl rfl (by decide +kernel) ⟨Nat.le_of_ble_eq_true rfl, Nat.le_of_ble_eq_true rfl⟩) (z_preS CX hW) rfl rfl hl.1 rfl (lv_room (Nat.le_of_ble_eq_true rfl)) dX12_meet_18 ⟨Nat.zero_le _, Nat.zero_le _⟩) (fun z18 gn H locs hok hW => ?_)
      obtain ⟨hz18, hg, hq18⟩ := hok
      rw [hg] at hW
      clear hg
      have e18 : zm_isIn what 0 1 = z18 := hz18.symm
      clear hz18
      refine z_if_ne (tgt := 26) CX dX12_meet_21 (by decide) (by constructor <;> omega) (fun c_21 => ?_) (fun c_21 => ?_)
      ·
        refine lv_iload_n hX0 hB0 dX12_meet_26 rfl (lv_at hl 3 rfl) ?_
        refine lv_iconst (v := zI (-1)) hX0 hB0 dX12_meet_27 rfl ?_
        refine z_icmp_ne (tgt := 49) CX dX12_meet_28 (by decide) (by constructor <;> omega) (by constructor <;> omega) (fun c_28 => ?_) (fun c_28 => ?_)
        ·
          refine lv_iconst (v := zI 0) hX0 hB0 dX12_meet_49 rfl ?_
          refine lv_istore (lv' := [(5, .int (zI 0)), (0, .ref o), (1, .int (zI a)), (2, .int (zI b)), (3, .int (zI k)), (4, .int (zI what))]) hX0 hB0 dX12_meet_50 hl (by decide) rfl (fun ls hl => ?_)
          refine lv_iconst (v := zI 0) hX0 hB0 dX12_meet_52 rfl ?_
          refine lv_istore (lv' := [(6, .int (zI 0)), (5, .int (zI 0)), (0, .ref o), (1, .int (zI a)), (2, .int (zI b)), (3, .int (zI k)), (4, .int (zI what))]) hX0 hB0 dX12_meet_53 hl (by decide) rfl (fun ls hl => ?_)
          have hXt55 : ∀ (n55 : Int) (p55 : Int), (zm_meet_W55 S a b k what ((995 : Nat)) 0 0 = .inr (n55, p55) ∧ 0 ≤ n55 ∧ n55 ≤ 1000 ∧ 0 ≤ p55 ∧ p55 ≤ 993 ∧ (n55 ≤ p55)) → ∀ (H : Heap) (locs : List Loc) (ls : Array Slot), zW D (zT cI cJ cZ cP cS cM) L (zQ L sz) st (zMO cI cJ o S f) st.heap H locs → lv_has ls 7 [(5, .int (zI n55)), (6, .int (zI p55)), (0, .ref o), (1, .int (zI a)), (2, .int (zI b)), (3, .int (zI k)), (4, .int (zI what))] → W pg l en ({ frames := 8, cells := 0, slots := 0, locals := 207 } : Room) st mi ag bl mt cd H locs 0 0 Q (F0 mi 112 ls []) := by
            intro n55 p55 hinv H locs ls hW hl
            obtain ⟨e55, han55, hbn55, hap55, hbp55, hv55⟩ := hinv
            refine lv_iload_n hX0 hB0 dX12_meet_112 rfl (lv_at hl 5 rfl) ?_
            refine lv_iconst (v := zI (-1)) hX0 hB0 dX12_meet_113 rfl ?_
            refine z_icmp_ne (tgt := 122) CX dX12_meet_114 (by decide) (by constructor <;> omega) (by constructor <;> omega) (fun c_114 => ?_) (fun c_114 => ?_)
            ·
              refine lv_iconst (v := zI (-1)) hX0 hB0 dX12_meet_122 rfl ?_
              have hE : zm_meet S a b k what = (-1, S) := by unfold zm_meet; exact zlet_e e3 (zif_f c_6 (zif_f d_11 (zlet_e e18 (zif_f c_21 (zif_f c_28 (zsum_r e55 (zif_f c_114 rfl)))))))
              have hFr : ∀ kk ii : Nat, ¬ (kk = 0 ∧ ii = 33) ∧ ¬ kk = 13 ∧ ¬ kk = 14 ∧ ¬ kk = 15 ∧ ¬ kk = 16 ∧ ¬ kk = 17 ∧ ¬ kk = 18 ∧ ¬ kk = 19 ∧ ¬ (kk = 3 ∧ 3500 ≤ (ii : Int)) → S kk ii = S kk ii := fun kk ii hk => rfl
              rw [← hQ]
              exact z_iret (z := -1) CX hW (by rw [hE]; exact ⟨rfl, rfl, hI, hFr, trivial⟩) rfl dX12_meet_123
            ·
              refine lv_iload hX0 hB0 dX12_meet_117 (lv_at hl 0 rfl) ?_
              refine lv_goto (tgt := 123) hX0 hB0 dX12_meet_119 (by decide) ?_
              have hE : zm_meet S a b k what = (n55, S) := by unfold zm_meet; exact zlet_e e3 (zif_f c_6 (zif_f d_11 (zlet_e e18 (zif_f c_21 (zif_f c_28 (zsum_r e55 (zif_t c_114 rfl)))))))
              have hFr : ∀ kk ii : Nat, ¬ (kk = 0 ∧ ii = 33) ∧ ¬ kk = 13 ∧ ¬ kk = 14 ∧ ¬ kk = 15 ∧ ¬ kk = 16 ∧ ¬ kk = 17 ∧ ¬ kk = 18 ∧ ¬ kk = 19 ∧ ¬ (kk = 3 ∧ 3500 ≤ (ii : Int)) → S kk ii = S kk ii := fun kk ii hk => rfl
              rw [← hQ]
              exact z_iret (z := n55) CX hW (by rw [hE]; exact ⟨rfl, rfl, hI, hFr, trivial⟩) rfl dX12_meet_123
          have hL55 : ∀ (fu : Nat) (n55 : Int) (p55 : Int), (zm_meet_W55 S a b k what ((995 : Nat)) 0 0 = zm_meet_W55 S a b k what fu n55 p55 ∧ 0 ≤ n55 ∧ n55 ≤ 1000 ∧ 0 ≤ p55 ∧ p55 ≤ 993 ∧ (n55 ≤ p55)) → (994 - p55).toNat < fu → ∀ (H : Heap) (locs : List Loc) (ls : Array Slot), zW D (zT cI cJ cZ cP cS cM) L (zQ L sz) st (zMO cI cJ o S f) st.heap H locs → lv_has ls 7 [(5, .int (zI n55)), (6, .int (zI p55)), (0, .ref o), (1, .int (zI a)), (2, .int (zI b)), (3, .int (zI k)), (4, .int (zI what))] → W pg l en ({ frames := 8, cells := 0, slots := 0, locals := 207 } : Room) st mi ag bl mt cd H locs 0 0 Q (F0 mi 55 ls []) := by
            intro fu
            induction fu with
            | zero => intro n55 p55 _ hfu; exact absurd hfu (Nat.not_lt_zero _)
            | succ fu ih55 =>
              intro n55 p55 hinv hfu55 H locs ls hW hl
              obtain ⟨hz55, han55, hbn55, hap55, hbp55, hv55⟩ := hinv
              refine lv_iload hX0 hB0 dX12_meet_55 (lv_at hl 1 rfl) ?_
              refine lv_aload_n hX0 hB0 dX12_meet_57 rfl (lv_at hl 2 rfl) ?_
              refine z_calli hW (va_runV (C := RX12) (As := []) (rest := [.int (zI p55)]) CX.fix (zk_points l o S  hI ) (cwV 0 CX.fix.2.2.2.2 gX12_meet_X12_points rfl rfl rfl (by decide +kernel) ⟨Nat.le_of_ble_eq_true rfl, Nat.le_of_ble_eq_true rfl⟩) (z_preV CX hW (r := (RX12, TX12, 37)) zMO_0 rfl) rfl rfl hl.1 rfl (lv_room (Nat.le_of_ble_eq_true rfl)) dX12_meet_58 ⟨Nat.zero_le _, Nat.zero_le _⟩) (fun z58 gn H locs hok hW => ?_)
              obtain ⟨hz58, hg, hq58⟩ := hok
              rw [hg] at hW
              clear hg
              have e58 : zm_points S = z58 := hz58.symm
              clear hz58
              refine z_icmp_ge (tgt := 112) CX dX12_meet_61 (by decide) (by constructor <;> omega) (by constructor <;> omega) (fun c_61 => ?_) (fun c_61 => ?_)
              ·
                exact hXt55 n55 p55 ⟨hz55.trans (by rw [zm_meet_W55]; exact zlet_e e58 (zif_t c_61 rfl)), by omega, by omega, by omega, by omega, by omega⟩ H locs ls hW (lv_sub hl [0, 1, 2, 3, 4, 5, 6] rfl)
              ·
                have d_61 : ¬ z58 ≤ p55 := by omega
                refine lv_aload_n hX0 hB0 dX12_meet_64 rfl (lv_at hl 2 rfl) ?_
                refine lv_iload_n hX0 hB0 dX12_meet_65 rfl (lv_at hl 3 rfl) ?_
                refine lv_iload_n hX0 hB0 dX12_meet_66 rfl (lv_at hl 4 rfl) ?_
                refine lv_iload hX0 hB0 dX12_meet_67 (lv_at hl 1 rfl) ?_
                refine z_calli hW (va_runV (C := RX12) (As := [.int (zI a), .int (zI b), .int (zI p55)]) (rest := []) CX.fix (zk_areOn l o S a b p55 hI (by constructor <;> omega) (by constructor <;> omega) (by constructor <;> omega)) (cwV 3 CX.fix.2.2.2.2 gX12_meet_X12_areOn rfl rfl rfl (by decide +kernel) ⟨Nat.le_of_ble_eq_true rfl, Nat.le_of_ble_eq_true rfl⟩) (z_preV CX hW (r := (RX12, TX12, 37)) zMO_0 rfl) rfl rfl hl.1 rfl (lv_room (Nat.le_of_ble_eq_true rfl)) dX12_meet_69 ⟨Nat.zero_le _, Nat.zero_le _⟩) (fun z69 gn H locs hok hW => ?_)
                obtain ⟨hz69, hg, hq69⟩ := hok
                rw [hg] at hW
                clear hg
                have e69 : zm_areOn S a b p55 = z69 := hz69.symm
                clear hz69
                refine z_if_ne (tgt := 78) CX dX12_meet_72 (by decide) (by constructor <;> omega) (fun c_72 => ?_) (fun c_72 => ?_)
                ·
                  refine lv_iload hX0 hB0 dX12_meet_78 (lv_at hl 0 rfl) ?_
                  refine lv_iload_n hX0 hB0 dX12_meet_80 rfl (lv_at hl 5 rfl) ?_
                  refine z_icmp_ne (tgt := 103) CX dX12_meet_81 (by decide) (by constructor <;> omega) (by constructor <;> omega) (fun c_81 => ?_) (fun c_81 => ?_)
                  ·
                    refine lv_iinc (v := zI (n55 + 1)) (lv' := [(5, .int (zI (n55 + 1))), (6, .int (zI p55)), (0, .ref o), (1, .int (zI a)), (2, .int (zI b)), (3, .int (zI k)), (4, .int (zI what))]) hX0 hB0 dX12_meet_103 hl (k := 0) rfl (zI_add _ _) (by decide) rfl (fun ls hl => ?_)
                    refine lv_iinc (v := zI (p55 + 1)) (lv' := [(6, .int (zI (p55 + 1))), (5, .int (zI (n55 + 1))), (0, .ref o), (1, .int (zI a)), (2, .int (zI b)), (3, .int (zI k)), (4, .int (zI what))]) hX0 hB0 dX12_meet_106 hl (k := 1) rfl (zI_add _ _) (by decide) rfl (fun ls hl => ?_)
                    refine lv_goto (tgt := 55) hX0 hB0 dX12_meet_109 (by decide) ?_
                    exact ih55 (n55 + 1) (p55 + 1) ⟨hz55.trans (by rw [zm_meet_W55]; exact zlet_e e58 (zif_f d_61 (zlet_e e69 (zif_f c_72 (zif_f c_81 rfl))))), by omega, by omega, by omega, by omega, by omega⟩ (by omega) H locs ls hW (lv_sub hl [1, 0, 2, 3, 4, 5, 6] rfl)
                  ·
                    refine lv_iload hX0 hB0 dX12_meet_84 (lv_at hl 6 rfl) ?_
                    refine z_if_ne (tgt := 94) CX dX12_meet_86 (by decide) (by constructor <;> omega) (fun c_86 => ?_) (fun c_86 => ?_)
                    ·
                      refine lv_aload_n hX0 hB0 dX12_meet_94 rfl (lv_at hl 2 rfl) ?_
                      refine lv_iload_n hX0 hB0 dX12_meet_95 rfl (lv_at hl 3 rfl) ?_
                      refine lv_iload_n hX0 hB0 dX12_meet_96 rfl (lv_at hl 4 rfl) ?_
                      refine lv_iload hX0 hB0 dX12_meet_97 (lv_at hl 1 rfl) ?_
                      refine z_calli hW (va_runV (C := RX12) (As := [.int (zI a), .int (zI b), .int (zI p55)]) (rest := []) CX.fix (zk_timesAt l o S a b p55 hI (by constructor <;> omega) (by constructor <;> omega) (by constructor <;> omega) hH (by omega) (by omega)) (cwV 3 CX.fix.2.2.2.2 gX12_meet_X12_timesAt rfl rfl rfl (by decide +kernel) ⟨Nat.le_of_ble_eq_true rfl, Nat.le_of_ble_eq_true rfl⟩) (z_preV CX hW (r := (RX12, TX12, 37)) zMO_0 rfl) rfl rfl hl.1 rfl (lv_room (Nat.le_of_ble_eq_true rfl)) dX12_meet_99 ⟨Nat.zero_le _, Nat.zero_le _⟩) (fun z99 gn H locs hok hW => ?_)
                      obtain ⟨hz99, hg, hI99, hf99, hq99⟩ := hok
                      obtain ⟨S99, hS99⟩ : ∃ q, q = (zm_timesAt S a b p55).2 := ⟨_, rfl⟩
                      rw [← hS99] at hg hI99 hf99
                      have t99_10 : S99 0 10 = S 0 10 := hf99 0 10 (by omega)
                      have t99_13 : S99 0 13 = S 0 13 := hf99 0 13 (by omega)
                      skip
                      try rw [← hS99] at hq99
                      rw [hg] at hW
                      clear hg
                      have e99 : zm_timesAt S a b p55 = (z99, S99) := Prod.ext hz99.symm hS99.symm
                      clear hz99 hS99
                      have hE : zm_meet S a b k what = (z99, S99) := by unfold zm_meet; exact zlet_e e3 (zif_f c_6 (zif_f d_11 (zlet_e e18 (zif_f c_21 (zif_f c_28 (zsum_l (hz55.trans (by rw [zm_meet_W55]; exact zlet_e e58 (zif_f d_61 (zlet_e e69 (zif_f c_72 (zif_t c_81 (zif_f c_86 (zlet_e e99 rfl)))))))) rfl))))))
                      have hFr : ∀ kk ii : Nat, ¬ (kk = 0 ∧ ii = 33) ∧ ¬ kk = 13 ∧ ¬ kk = 14 ∧ ¬ kk = 15 ∧ ¬ kk = 16 ∧ ¬ kk = 17 ∧ ¬ kk = 18 ∧ ¬ kk = 19 ∧ ¬ (kk = 3 ∧ 3500 ≤ (ii : Int)) → S99 kk ii = S kk ii := fun kk ii hk => (hf99 kk ii (by omega))
                      rw [← hQ]
                      exact z_iret (z := z99) CX hW (by rw [hE]; exact ⟨rfl, rfl, hI99, hFr, trivial⟩) rfl dX12_meet_102
                    ·
                      refine lv_iload hX0 hB0 dX12_meet_89 (lv_at hl 1 rfl) ?_
                      refine lv_goto (tgt := 102) hX0 hB0 dX12_meet_91 (by decide) ?_
                      have hE : zm_meet S a b k what = (p55, S) := by unfold zm_meet; exact zlet_e e3 (zif_f c_6 (zif_f d_11 (zlet_e e18 (zif_f c_21 (zif_f c_28 (zsum_l (hz55.trans (by rw [zm_meet_W55]; exact zlet_e e58 (zif_f d_61 (zlet_e e69 (zif_f c_72 (zif_t c_81 (zif_t c_86 rfl))))))) rfl))))))
                      have hFr : ∀ kk ii : Nat, ¬ (kk = 0 ∧ ii = 33) ∧ ¬ kk = 13 ∧ ¬ kk = 14 ∧ ¬ kk = 15 ∧ ¬ kk = 16 ∧ ¬ kk = 17 ∧ ¬ kk = 18 ∧ ¬ kk = 19 ∧ ¬ (kk = 3 ∧ 3500 ≤ (ii : Int)) → S kk ii = S kk ii := fun kk ii hk => rfl
                      rw [← hQ]
                      exact z_iret (z := p55) CX hW (by rw [hE]; exact ⟨rfl, rfl, hI, hFr, trivial⟩) rfl dX12_meet_102
                ·
                  refine lv_goto (tgt := 106) hX0 hB0 dX12_meet_75 (by decide) ?_
                  refine lv_iinc (v := zI (p55 + 1)) (lv' := [(6, .int (zI (p55 + 1))), (5, .int (zI n55)), (0, .ref o), (1, .int (zI a)), (2, .int (zI b)), (3, .int (zI k)), (4, .int (zI what))]) hX0 hB0 dX12_meet_106 hl (k := 1) rfl (zI_add _ _) (by decide) rfl (fun ls hl => ?_)
                  refine lv_goto (tgt := 55) hX0 hB0 dX12_meet_109 (by decide) ?_
                  exact ih55 n55 (p55 + 1) ⟨hz55.trans (by rw [zm_meet_W55]; exact zlet_e e58 (zif_f d_61 (zlet_e e69 (zif_t c_72 rfl)))), by omega, by omega, by omega, by omega, by omega⟩ (by omega) H locs ls hW (lv_sub hl [1, 0, 2, 3, 4, 5, 6] rfl)
          exact hL55 _ 0 0 ⟨rfl, by omega, by omega, by omega, by omega, by omega⟩ (by omega) H locs ls hW (lv_sub hl [1, 0, 2, 3, 4, 5, 6] rfl)
        ·
          refine lv_iload hX0 hB0 dX12_meet_31 (lv_at hl 4 rfl) ?_
          refine lv_iconst (v := zI 1) hX0 hB0 dX12_meet_33 rfl ?_
          refine z_icmp_ne (tgt := 49) CX dX12_meet_34 (by decide) (by constructor <;> omega) (by constructor <;> omega) (fun c_34 => ?_) (fun c_34 => ?_)
          ·
            refine lv_iconst (v := zI 0) hX0 hB0 dX12_meet_49 rfl ?_
            refine lv_istore (lv' := [(5, .int (zI 0)), (0, .ref o), (1, .int (zI a)), (2, .int (zI b)), (3, .int (zI k)), (4, .int (zI what))]) hX0 hB0 dX12_meet_50 hl (by decide) rfl (fun ls hl => ?_)
            refine lv_iconst (v := zI 0) hX0 hB0 dX12_meet_52 rfl ?_
            refine lv_istore (lv' := [(6, .int (zI 0)), (5, .int (zI 0)), (0, .ref o), (1, .int (zI a)), (2, .int (zI b)), (3, .int (zI k)), (4, .int (zI what))]) hX0 hB0 dX12_meet_53 hl (by decide) rfl (fun ls hl => ?_)
            have hXt55 : ∀ (n55 : Int) (p55 : Int), (zm_meet_W55 S a b k what ((995 : Nat)) 0 0 = .inr (n55, p55) ∧ 0 ≤ n55 ∧ n55 ≤ 1000 ∧ 0 ≤ p55 ∧ p55 ≤ 993 ∧ (n55 ≤ p55)) → ∀ (H : Heap) (locs : List Loc) (ls : Array Slot), zW D (zT cI cJ cZ cP cS cM) L (zQ L sz) st (zMO cI cJ o S f) st.heap H locs → lv_has ls 7 [(5, .int (zI n55)), (6, .int (zI p55)), (0, .ref o), (1, .int (zI a)), (2, .int (zI b)), (3, .int (zI k)), (4, .int (zI what))] → W pg l en ({ frames := 8, cells := 0, slots := 0, locals := 207 } : Room) st mi ag bl mt cd H locs 0 0 Q (F0 mi 112 ls []) := by
              intro n55 p55 hinv H locs ls hW hl
              obtain ⟨e55, han55, hbn55, hap55, hbp55, hv55⟩ := hinv
              refine lv_iload_n hX0 hB0 dX12_meet_112 rfl (lv_at hl 5 rfl) ?_
              refine lv_iconst (v := zI (-1)) hX0 hB0 dX12_meet_113 rfl ?_
              refine z_icmp_ne (tgt := 122) CX dX12_meet_114 (by decide) (by constructor <;> omega) (by constructor <;> omega) (fun c_114 => ?_) (fun c_114 => ?_)
              ·
                refine lv_iconst (v := zI (-1)) hX0 hB0 dX12_meet_122 rfl ?_
                have hE : zm_meet S a b k what = (-1, S) := by unfold zm_meet; exact zlet_e e3 (zif_f c_6 (zif_f d_11 (zlet_e e18 (zif_f c_21 (zif_t c_28 (zif_f c_34 (zsum_r e55 (zif_f c_114 rfl))))))))
                have hFr : ∀ kk ii : Nat, ¬ (kk = 0 ∧ ii = 33) ∧ ¬ kk = 13 ∧ ¬ kk = 14 ∧ ¬ kk = 15 ∧ ¬ kk = 16 ∧ ¬ kk = 17 ∧ ¬ kk = 18 ∧ ¬ kk = 19 ∧ ¬ (kk = 3 ∧ 3500 ≤ (ii : Int)) → S kk ii = S kk ii := fun kk ii hk => rfl
                rw [← hQ]
                exact z_iret (z := -1) CX hW (by rw [hE]; exact ⟨rfl, rfl, hI, hFr, trivial⟩) rfl dX12_meet_123
              ·
                refine lv_iload hX0 hB0 dX12_meet_117 (lv_at hl 0 rfl) ?_
                refine lv_goto (tgt := 123) hX0 hB0 dX12_meet_119 (by decide) ?_
                have hE : zm_meet S a b k what = (n55, S) := by unfold zm_meet; exact zlet_e e3 (zif_f c_6 (zif_f d_11 (zlet_e e18 (zif_f c_21 (zif_t c_28 (zif_f c_34 (zsum_r e55 (zif_t c_114 rfl))))))))
                have hFr : ∀ kk ii : Nat, ¬ (kk = 0 ∧ ii = 33) ∧ ¬ kk = 13 ∧ ¬ kk = 14 ∧ ¬ kk = 15 ∧ ¬ kk = 16 ∧ ¬ kk = 17 ∧ ¬ kk = 18 ∧ ¬ kk = 19 ∧ ¬ (kk = 3 ∧ 3500 ≤ (ii : Int)) → S kk ii = S kk ii := fun kk ii hk => rfl
                rw [← hQ]
                exact z_iret (z := n55) CX hW (by rw [hE]; exact ⟨rfl, rfl, hI, hFr, trivial⟩) rfl dX12_meet_123
            have hL55 : ∀ (fu : Nat) (n55 : Int) (p55 : Int), (zm_meet_W55 S a b k what ((995 : Nat)) 0 0 = zm_meet_W55 S a b k what fu n55 p55 ∧ 0 ≤ n55 ∧ n55 ≤ 1000 ∧ 0 ≤ p55 ∧ p55 ≤ 993 ∧ (n55 ≤ p55)) → (994 - p55).toNat < fu → ∀ (H : Heap) (locs : List Loc) (ls : Array Slot), zW D (zT cI cJ cZ cP cS cM) L (zQ L sz) st (zMO cI cJ o S f) st.heap H locs → lv_has ls 7 [(5, .int (zI n55)), (6, .int (zI p55)), (0, .ref o), (1, .int (zI a)), (2, .int (zI b)), (3, .int (zI k)), (4, .int (zI what))] → W pg l en ({ frames := 8, cells := 0, slots := 0, locals := 207 } : Room) st mi ag bl mt cd H locs 0 0 Q (F0 mi 55 ls []) := by
              intro fu
              induction fu with
              | zero => intro n55 p55 _ hfu; exact absurd hfu (Nat.not_lt_zero _)
              | succ fu ih55 =>
                intro n55 p55 hinv hfu55 H locs ls hW hl
                obtain ⟨hz55, han55, hbn55, hap55, hbp55, hv55⟩ := hinv
                refine lv_iload hX0 hB0 dX12_meet_55 (lv_at hl 1 rfl) ?_
                refine lv_aload_n hX0 hB0 dX12_meet_57 rfl (lv_at hl 2 rfl) ?_
                refine z_calli hW (va_runV (C := RX12) (As := []) (rest := [.int (zI p55)]) CX.fix (zk_points l o S  hI ) (cwV 0 CX.fix.2.2.2.2 gX12_meet_X12_points rfl rfl rfl (by decide +kernel) ⟨Nat.le_of_ble_eq_true rfl, Nat.le_of_ble_eq_true rfl⟩) (z_preV CX hW (r := (RX12, TX12, 37)) zMO_0 rfl) rfl rfl hl.1 rfl (lv_room (Nat.le_of_ble_eq_true rfl)) dX12_meet_58 ⟨Nat.zero_le _, Nat.zero_le _⟩) (fun z58 gn H locs hok hW => ?_)
                obtain ⟨hz58, hg, hq58⟩ := hok
                rw [hg] at hW
                clear hg
                have e58 : zm_points S = z58 := hz58.symm
                clear hz58
                refine z_icmp_ge (tgt := 112) CX dX12_meet_61 (by decide) (by constructor <;> omega) (by constructor <;> omega) (fun c_61 => ?_) (fun c_61 => ?_)
                ·
                  exact hXt55 n55 p55 ⟨hz55.trans (by rw [zm_meet_W55]; exact zlet_e e58 (zif_t c_61 rfl)), by omega, by omega, by omega, by omega, by omega⟩ H locs ls hW (lv_sub hl [0, 1, 2, 3, 4, 5, 6] rfl)
                ·
                  have d_61 : ¬ z58 ≤ p55 := by omega
                  refine lv_aload_n hX0 hB0 dX12_meet_64 rfl (lv_at hl 2 rfl) ?_
                  refine lv_iload_n hX0 hB0 dX12_meet_65 rfl (lv_at hl 3 rfl) ?_
                  refine lv_iload_n hX0 hB0 dX12_meet_66 rfl (lv_at hl 4 rfl) ?_
                  refine lv_iload hX0 hB0 dX12_meet_67 (lv_at hl 1 rfl) ?_
                  refine z_calli hW (va_runV (C := RX12) (As := [.int (zI a), .int (zI b), .int (zI p55)]) (rest := []) CX.fix (zk_areOn l o S a b p55 hI (by constructor <;> omega) (by constructor <;> omega) (by constructor <;> omega)) (cwV 3 CX.fix.2.2.2.2 gX12_meet_X12_areOn rfl rfl rfl (by decide +kernel) ⟨Nat.le_of_ble_eq_true rfl, Nat.le_of_ble_eq_true rfl⟩) (z_preV CX hW (r := (RX12, TX12, 37)) zMO_0 rfl) rfl rfl hl.1 rfl (lv_room (Nat.le_of_ble_eq_true rfl)) dX12_meet_69 ⟨Nat.zero_le _, Nat.zero_le _⟩) (fun z69 gn H locs hok hW => ?_)
                  obtain ⟨hz69, hg, hq69⟩ := hok
                  rw [hg] at hW
                  clear hg
                  have e69 : zm_areOn S a b p55 = z69 := hz69.symm
                  clear hz69
                  refine z_if_ne (tgt := 78) CX dX12_meet_72 (by decide) (by constructor <;> omega) (fun c_72 => ?_) (fun c_72 => ?_)
                  ·
                    refine lv_iload hX0 hB0 dX12_meet_78 (lv_at hl 0 rfl) ?_
                    refine lv_iload_n hX0 hB0 dX12_meet_80 rfl (lv_at hl 5 rfl) ?_
                    refine z_icmp_ne (tgt := 103) CX dX12_meet_81 (by decide) (by constructor <;> omega) (by constructor <;> omega) (fun c_81 => ?_) (fun c_81 => ?_)
                    ·
                      refine lv_iinc (v := zI (n55 + 1)) (lv' := [(5, .int (zI (n55 + 1))), (6, .int (zI p55)), (0, .ref o), (1, .int (zI a)), (2, .int (zI b)), (3, .int (zI k)), (4, .int (zI what))]) hX0 hB0 dX12_meet_103 hl (k := 0) rfl (zI_add _ _) (by decide) rfl (fun ls hl => ?_)
                      refine lv_iinc (v := zI (p55 + 1)) (lv' := [(6, .int (zI (p55 + 1))), (5, .int (zI (n55 + 1))), (0, .ref o), (1, .int (zI a)), (2, .int (zI b)), (3, .int (zI k)), (4, .int (zI what))]) hX0 hB0 dX12_meet_106 hl (k := 1) rfl (zI_add _ _) (by decide) rfl (fun ls hl => ?_)
                      refine lv_goto (tgt := 55) hX0 hB0 dX12_meet_109 (by decide) ?_
                      exact ih55 (n55 + 1) (p55 + 1) ⟨hz55.trans (by rw [zm_meet_W55]; exact zlet_e e58 (zif_f d_61 (zlet_e e69 (zif_f c_72 (zif_f c_81 rfl))))), by omega, by omega, by omega, by omega, by omega⟩ (by omega) H locs ls hW (lv_sub hl [1, 0, 2, 3, 4, 5, 6] rfl)
                    ·
                      refine lv_iload hX0 hB0 dX12_meet_84 (lv_at hl 6 rfl) ?_
                      refine z_if_ne (tgt := 94) CX dX12_meet_86 (by decide) (by constructor <;> omega) (fun c_86 => ?_) (fun c_86 => ?_)
                      ·
                        refine lv_aload_n hX0 hB0 dX12_meet_94 rfl (lv_at hl 2 rfl) ?_
                        refine lv_iload_n hX0 hB0 dX12_meet_95 rfl (lv_at hl 3 rfl) ?_
                        refine lv_iload_n hX0 hB0 dX12_meet_96 rfl (lv_at hl 4 rfl) ?_
                        refine lv_iload hX0 hB0 dX12_meet_97 (lv_at hl 1 rfl) ?_
                        refine z_calli hW (va_runV (C := RX12) (As := [.int (zI a), .int (zI b), .int (zI p55)]) (rest := []) CX.fix (zk_timesAt l o S a b p55 hI (by constructor <;> omega) (by constructor <;> omega) (by constructor <;> omega) hH (by omega) (by omega)) (cwV 3 CX.fix.2.2.2.2 gX12_meet_X12_timesAt rfl rfl rfl (by decide +kernel) ⟨Nat.le_of_ble_eq_true rfl, Nat.le_of_ble_eq_true rfl⟩) (z_preV CX hW (r := (RX12, TX12, 37)) zMO_0 rfl) rfl rfl hl.1 rfl (lv_room (Nat.le_of_ble_eq_true rfl)) dX12_meet_99 ⟨Nat.zero_le _, Nat.zero_le _⟩) (fun z99 gn H locs hok hW => ?_)
                        obtain ⟨hz99, hg, hI99, hf99, hq99⟩ := hok
                        obtain ⟨S99, hS99⟩ : ∃ q, q = (zm_timesAt S a b p55).2 := ⟨_, rfl⟩
                        rw [← hS99] at hg hI99 hf99
                        have t99_10 : S99 0 10 = S 0 10 := hf99 0 10 (by omega)
                        have t99_13 : S99 0 13 = S 0 13 := hf99 0 13 (by omega)
                        skip
                        try rw [← hS99] at hq99
                        rw [hg] at hW
                        clear hg
                        have e99 : zm_timesAt S a b p55 = (z99, S99) := Prod.ext hz99.symm hS99.symm
                        clear hz99 hS99
                        have hE : zm_meet S a b k what = (z99, S99) := by unfold zm_meet; exact zlet_e e3 (zif_f c_6 (zif_f d_11 (zlet_e e18 (zif_f c_21 (zif_t c_28 (zif_f c_34 (zsum_l (hz55.trans (by rw [zm_meet_W55]; exact zlet_e e58 (zif_f d_61 (zlet_e e69 (zif_f c_72 (zif_t c_81 (zif_f c_86 (zlet_e e99 rfl)))))))) rfl)))))))
                        have hFr : ∀ kk ii : Nat, ¬ (kk = 0 ∧ ii = 33) ∧ ¬ kk = 13 ∧ ¬ kk = 14 ∧ ¬ kk = 15 ∧ ¬ kk = 16 ∧ ¬ kk = 17 ∧ ¬ kk = 18 ∧ ¬ kk = 19 ∧ ¬ (kk = 3 ∧ 3500 ≤ (ii : Int)) → S99 kk ii = S kk ii := fun kk ii hk => (hf99 kk ii (by omega))
                        rw [← hQ]
                        exact z_iret (z := z99) CX hW (by rw [hE]; exact ⟨rfl, rfl, hI99, hFr, trivial⟩) rfl dX12_meet_102
                      ·
                        refine lv_iload hX0 hB0 dX12_meet_89 (lv_at hl 1 rfl) ?_
                        refine lv_goto (tgt := 102) hX0 hB0 dX12_meet_91 (by decide) ?_
                        have hE : zm_meet S a b k what = (p55, S) := by unfold zm_meet; exact zlet_e e3 (zif_f c_6 (zif_f d_11 (zlet_e e18 (zif_f c_21 (zif_t c_28 (zif_f c_34 (zsum_l (hz55.trans (by rw [zm_meet_W55]; exact zlet_e e58 (zif_f d_61 (zlet_e e69 (zif_f c_72 (zif_t c_81 (zif_t c_86 rfl))))))) rfl)))))))
                        have hFr : ∀ kk ii : Nat, ¬ (kk = 0 ∧ ii = 33) ∧ ¬ kk = 13 ∧ ¬ kk = 14 ∧ ¬ kk = 15 ∧ ¬ kk = 16 ∧ ¬ kk = 17 ∧ ¬ kk = 18 ∧ ¬ kk = 19 ∧ ¬ (kk = 3 ∧ 3500 ≤ (ii : Int)) → S kk ii = S kk ii := fun kk ii hk => rfl
                        rw [← hQ]
                        exact z_iret (z := p55) CX hW (by rw [hE]; exact ⟨rfl, rfl, hI, hFr, trivial⟩) rfl dX12_meet_102
                  ·
                    refine lv_goto (tgt := 106) hX0 hB0 dX12_meet_75 (by decide) ?_
                    refine lv_iinc (v := zI (p55 + 1)) (lv' := [(6, .int (zI (p55 + 1))), (5, .int (zI n55)), (0, .ref o), (1, .int (zI a)), (2, .int (zI b)), (3, .int (zI k)), (4, .int (zI what))]) hX0 hB0 dX12_meet_106 hl (k := 1) rfl (zI_add _ _) (by decide) rfl (fun ls hl => ?_)
                    refine lv_goto (tgt := 55) hX0 hB0 dX12_meet_109 (by decide) ?_
                    exact ih55 n55 (p55 + 1) ⟨hz55.trans (by rw [zm_meet_W55]; exact zlet_e e58 (zif_f d_61 (zlet_e e69 (zif_t c_72 rfl)))), by omega, by omega, by omega, by omega, by omega⟩ (by omega) H locs ls hW (lv_sub hl [1, 0, 2, 3, 4, 5, 6] rfl)
            exact hL55 _ 0 0 ⟨rfl, by omega, by omega, by omega, by omega, by omega⟩ (by omega) H locs ls hW (lv_sub hl [1, 0, 2, 3, 4, 5, 6] rfl)
          ·
            refine lv_aload_n hX0 hB0 dX12_meet_37 rfl (lv_at hl 0 rfl) ?_
            refine lv_iload_n hX0 hB0 dX12_meet_38 rfl (lv_at hl 1 rfl) ?_
            refine lv_iload_n hX0 hB0 dX12_meet_39 rfl (lv_at hl 2 rfl) ?_
            refine lv_iconst (v := zI 0) hX0 hB0 dX12_meet_40 rfl ?_
            refine lv_aload_n hX0 hB0 dX12_meet_41 rfl (lv_at hl 0 rfl) ?_
            refine z_calli hW (va_runV (C := RX12) (As := []) (rest := [.int (zI 0), .int (zI b), .int (zI a), .ref o]) CX.fix (zk_points l o S  hI ) (cwV 0 CX.fix.2.2.2.2 gX12_meet_X12_points rfl rfl rfl (by decide +kernel) ⟨Nat.le_of_ble_eq_true rfl, Nat.le_of_ble_eq_true rfl⟩) (z_preV CX hW (r := (RX12, TX12, 37)) zMO_0 rfl) rfl rfl hl.1 rfl (lv_room (Nat.le_of_ble_eq_true rfl)) dX12_meet_42 ⟨Nat.zero_le _, Nat.zero_le _⟩) (fun z42 gn H locs hok hW => ?_)
            obtain ⟨hz42, hg, hq42⟩ := hok
            rw [hg] at hW
            clear hg
            have e42 : zm_points S = z42 := hz42.symm
            clear hz42
            refine z_calli hW (va_runV (C := RX12) (As := [.int (zI a), .int (zI b), .int (zI 0), .int (zI z42)]) (rest := []) CX.fix (zk_timesAmong l o S a b 0 z42 hI (by constructor <;> omega) (by constructor <;> omega) (by constructor <;> omega) (by constructor <;> omega) hH (by omega) (by omega) (by omega)) (cwV 4 CX.fix.2.2.2.2 gX12_meet_X12_timesAmong rfl rfl rfl (by decide +kernel) ⟨Nat.le_of_ble_eq_true rfl, Nat.le_of_ble_eq_true rfl⟩) (z_preV CX hW (r := (RX12, TX12, 37)) zMO_0 rfl) rfl rfl hl.1 rfl (lv_room (Nat.le_of_ble_eq_true rfl)) dX12_meet_45 ⟨Nat.zero_le _, Nat.zero_le _⟩) (fun z45 gn H locs hok hW => ?_)
            obtain ⟨hz45, hg, hI45, hf45, hq45⟩ := hok
            obtain ⟨S45, hS45⟩ : ∃ q, q = (zm_timesAmong S a b 0 z42).2 := ⟨_, rfl⟩
            rw [← hS45] at hg hI45 hf45
            have t45_10 : S45 0 10 = S 0 10 := hf45 0 10 (by omega)
            have t45_13 : S45 0 13 = S 0 13 := hf45 0 13 (by omega)
            skip
            try rw [← hS45] at hq45
            rw [hg] at hW
            clear hg
            have e45 : zm_timesAmong S a b 0 z42 = (z45, S45) := Prod.ext hz45.symm hS45.symm
            clear hz45 hS45
            have hE : zm_meet S a b k what = (z45, S45) := by unfold zm_meet; exact zlet_e e3 (zif_f c_6 (zif_f d_11 (zlet_e e18 (zif_f c_21 (zif_t c_28 (zif_t c_34 (zlet_e e42 (zlet_e e45 rfl))))))))
            have hFr : ∀ kk ii : Nat, ¬ (kk = 0 ∧ ii = 33) ∧ ¬ kk = 13 ∧ ¬ kk = 14 ∧ ¬ kk = 15 ∧ ¬ kk = 16 ∧ ¬ kk = 17 ∧ ¬ kk = 18 ∧ ¬ kk = 19 ∧ ¬ (kk = 3 ∧ 3500 ≤ (ii : Int)) → S45 kk ii = S kk ii := fun kk ii hk => (hf45 kk ii (by omega))
            rw [← hQ]
            exact z_iret (z := z45) CX hW (by rw [hE]; exact ⟨rfl, rfl, hI45, hFr, trivial⟩) rfl dX12_meet_48
      ·
        refine lv_iconst (v := zI (-1)) hX0 hB0 dX12_meet_24 rfl ?_
        have hE : zm_meet S a b k what = (-1, S) := by unfold zm_meet; exact zlet_e e3 (zif_f c_6 (zif_f d_11 (zlet_e e18 (zif_t c_21 rfl))))
        have hFr : ∀ kk ii : Nat, ¬ (kk = 0 ∧ ii = 33) ∧ ¬ kk = 13 ∧ ¬ kk = 14 ∧ ¬ kk = 15 ∧ ¬ kk = 16 ∧ ¬ kk = 17 ∧ ¬ kk = 18 ∧ ¬ kk = 19 ∧ ¬ (kk = 3 ∧ 3500 ≤ (ii : Int)) → S kk ii = S kk ii := fun kk ii hk => rfl
        rw [← hQ]
        exact z_iret (z := -1) CX hW (by rw [hE]; exact ⟨rfl, rfl, hI, hFr, trivial⟩) rfl dX12_meet_25
def zm_total (S : zS2) (a : Int) (b : Int) (what : Int) : Int × zS2 := zlet (zm_areCurves S a b) (fun z3 => (if z3 = 0 then (-1, S) else zlet (zm_isIn what 0 4) (fun z12 => (if z12 = 0 then (-1, S) else zlet (zm_laysCommon S a b) (fun S23 => zlet (zm_degreeOf S23 143) (fun z30 => (if z30 ≤ 0 then zlet (zm_degreeOf S23 a) (fun z40 => zlet (zm_degreeOf S23 b) (fun z45 => (if what = 0 then (z40 * z45, S23) else (if what = 1 then zlet (zm_near S23 a b) (fun q90 => (fun (z90 : Int) (S90 : zS2) => (z90, S90)) q90.1 q90.2) else (if what = 2 then zlet (zm_near S23 a b) (fun q99 => (fun (z99 : Int) (S99 : zS2) => ((z40 * z45) - z99, S99)) q99.1 q99.2) else (if what = 3 then zlet (zm_timesAmong S23 a b 0 ((S23 0 10) * (S23 0 10))) (fun q117 => (fun (z117 : Int) (S117 : zS2) => (z117, S117)) q117.1 q117.2) else zlet (zm_points S23) (fun z134 => zlet (zm_timesAmong S23 a b ((S23 0 10) * (S23 0 10)) z134) (fun q137 => (fun (z137 : Int) (S137 : zS2) => (z137, S137)) q137.1 q137.2)))))))) else (-1, S23))))))))
set_option maxRecDepth 100000 in
set_option maxHeartbeats 4000000 in
theorem zk_total (l : Launch) {D : va_G} {cI cJ cZ cP cS cM : ClassId} {L : List Nat} {sz : Nat} {f : Nat → va_E} (o : Nat) (S : zS2) (a : Int) (b : Int) (what : Int) (hI : mI S) (ha : -2147483648 ≤ a ∧ a ≤ 2147483647) (hb : -2147483648 ≤ b ∧ b ≤ 2147483647) (hwhat : -2147483648 ≤ what ∧ what ≤ 2147483647) (hH : zqH S) : zMi l yX12_total wsX12_total 8 207 D (zT cI cJ cZ cP cS cM) L sz (zMO cI cJ o S f) [.ref o, .int (zI a), .int (zI b), .int (zI what)] (fun zv gv => zv = (zm_total S a b what).1 ∧ gv = zMO cI cJ o (zm_total S a b what).2 f ∧ mI (zm_total S a b what).2 ∧ (∀ kk ii : Nat, ¬ (kk = 0 ∧ ii = 23) ∧ ¬ (kk = 0 ∧ ii = 24) ∧ ¬ (kk = 0 ∧ ii = 26) ∧ ¬ (kk = 0 ∧ ii = 33) ∧ ¬ kk = 10 ∧ ¬ kk = 11 ∧ ¬ kk = 12 ∧ ¬ kk = 13 ∧ ¬ kk = 14 ∧ ¬ kk = 15 ∧ ¬ kk = 16 ∧ ¬ kk = 17 ∧ ¬ kk = 18 ∧ ¬ kk = 19 ∧ ¬ (kk = 3 ∧ 3500 ≤ (ii : Int)) → (zm_total S a b what).2 kk ii = S kk ii) ∧ True) := by
  refine zWalk.met (nL := 5) (ret := (some .int)) (cc := cX12_total) (by decide) rfl (Nat.le_of_ble_eq_true rfl) ?_
  intro pg en st mi ag bl mt cd ls CX hW hl
  have CX : zC pg st mi ag mt cd cX12_total 5 (some .int) RX12 wsX12_total := CX
  generalize hQ : MQ bl _ ag st 0 0 _ = Q
  have hX0 := CX.1
  have hB0 := CX.2.1
  have hl : lv_has ls 5 [(0, .ref o), (1, .int (zI a)), (2, .int (zI b)), (3, .int (zI what))] := hl
  obtain ⟨H, eH⟩ : ∃ H, H = st.heap := ⟨_, rfl⟩
  obtain ⟨locs, eL⟩ : ∃ L : List Loc, L = [] := ⟨_, rfl⟩
  have hW : zW D (zT cI cJ cZ cP cS cM) L (zQ L sz) st (zMO cI cJ o S f) st.heap H locs := by rw [eH, eL]; exact hW
  suffices hgo : W pg l en ({ frames := 8, cells := 0, slots := 0, locals := 207 } : Room) st mi ag bl mt cd H locs 0 0 Q (F0 mi 0 ls []) by rw [eH, eL] at hgo; exact hgo
  clear eH eL
  have hpb := hI.s10
  refine lv_aload_n hX0 hB0 dX12_total_0 rfl (lv_at hl 0 rfl) ?_
  refine lv_iload_n hX0 hB0 dX12_total_1 rfl (lv_at hl 1 rfl) ?_
  refine lv_iload_n hX0 hB0 dX12_total_2 rfl (lv_at hl 2 rfl) ?_
  refine z_calli hW (va_runV (C := RX12) (As := [.int (zI a), .int (zI b)]) (rest := []) CX.fix (zk_areCurves l o S a b hI (by constructor <;> omega) (by constructor <;> omega)) (cwV 2 CX.fix.2.2.2.2 gX12_total_X12_areCurves rfl rfl rfl (by decide +kernel) ⟨Nat.le_of_ble_eq_true rfl, Nat.le_of_ble_eq_true rfl⟩) (z_preV CX hW (r := (RX12, TX12, 37)) zMO_0 rfl) rfl rfl hl.1 rfl (lv_room (Nat.le_of_ble_eq_true rfl)) dX12_total_3 ⟨Nat.zero_le _, Nat.zero_le _⟩) (fun z3 gn H locs hok hW => ?_)
  obtain ⟨hz3, hg, hq3⟩ := hok
  rw [hg] at hW
  clear hg
  have e3 : zm_areCurves S a b = z3 := hz3.symm
  clear hz3
  refine z_if_eq (tgt := 18) CX dX12_total_6 (by decide) (by constructor <;> omega) (fun c_6 => ?_) (fun c_6 => ?_)
  ·
    refine lv_iconst (v := zI (-1)) hX0 hB0 dX12_total_18 rfl ?_
    have hE : zm_total S a b what = (-1, S) := by unfold zm_total; exact zlet_e e3 (zif_t c_6 rfl)
    have hFr : ∀ kk ii : Nat, ¬ (kk = 0 ∧ ii = 23) ∧ ¬ (kk = 0 ∧ ii = 24) ∧ ¬ (kk = 0 ∧ ii = 26) ∧ ¬ (kk = 0 ∧ ii = 33) ∧ ¬ kk = 10 ∧ ¬ kk = 11 ∧ ¬ kk = 12 ∧ ¬ kk = 13 ∧ ¬ kk = 14 ∧ ¬ kk = 15 ∧ ¬ kk = 16 ∧ ¬ kk = 17 ∧ ¬ kk = 18 ∧ ¬ kk = 19 ∧ ¬ (kk = 3 ∧ 3500 ≤ (ii : Int)) → S kk ii = S kk ii := fun kk ii hk => rfl
    rw [← hQ]
    exact z_iret (z := -1) CX hW (by rw [hE]; exact ⟨rfl, rfl, hI, hFr, trivial⟩) rfl dX12_total_19
  ·
    refine lv_iload_n hX0 hB0 dX12_total_9 rfl (lv_at hl 3 rfl) ?_
    refine lv_iconst (v := zI 0) hX0 hB0 dX12_total_10 rfl ?_
    refine lv_iconst (v := zI 4) hX0 hB0 dX12_total_11 rfl ?_
    refine z_calli hW (va_runS (As := [.int (zI what), .int (zI 0), .int (zI 4)]) (rest := []) CX.fix (zk_isIn l (f := zMO cI cJ o S f) what 0 4 (by constructor <;> omega) (by constructor <;> omega) (by constructor <;> omega)) (va_cwS 3 CX.fix.2.2.2.2 gX12_total_X12_isIn rfl rfl rfl (by decide +kernel) ⟨Nat.le_of_ble_eq_true rfl, Nat.le_of_ble_eq_true rfl⟩) (z_preS CX hW) rfl rfl hl.1 rfl (lv_room (Nat.le_of_ble_eq_true rfl)) dX12_total_12 ⟨Nat.zero_le _, Nat.zero_le _⟩) (fun z12 gn H locs hok hW => ?_)
    obtain ⟨hz12, hg, hq12⟩ := hok
    rw [hg] at hW
    clear hg
    have e12 : zm_isIn what 0 4 = z12 := hz12.symm
    clear hz12
    refine z_if_ne (tgt := 20) CX dX12_total_15 (by decide) (by constructor <;> omega) (fun c_15 => ?_) (fun c_15 => ?_)
    ·
      refine lv_aload_n hX0 hB0 dX12_total_20 rfl (lv_at hl 0 rfl) ?_
      refine lv_iload_n hX0 hB0 dX12_total_21 rfl (lv_at hl 1 rfl) ?_
      refine lv_iload_n hX0 hB0 dX12_total_22 rfl (lv_at hl 2 rfl) ?_
      refine z_callv hW (va_runV (C := RX12) (As := [.int (zI a), .int (zI b)]) (rest := []) CX.fix (zk_laysCommon l o S a b hI (by constructor <;> omega) (by constructor <;> omega) ⟨zqH.deg hH hI (by omega) (by omega), zqH.deg hH hI (by omega) (by omega)⟩) (cwV 2 CX.fix.2.2.2.2 gX12_total_X12_laysCommon rfl rfl rfl (by decide +kernel) ⟨Nat.le_of_ble_eq_true rfl, Nat.le_of_ble_eq_true rfl⟩) (z_preV CX hW (r := (RX12, TX12, 37)) zMO_0 rfl) rfl rfl hl.1 rfl (lv_room (Nat.le_of_ble_eq_true rfl)) dX12_total_23 ⟨Nat.zero_le _, Nat.zero_le _⟩) (fun gn H locs hok hW => ?_)
      obtain ⟨hg, hI23, hf23, hq23⟩ := hok
      obtain ⟨S23, e23⟩ : ∃ q, zm_laysCommon S a b = q := ⟨_, rfl⟩
      rw [e23] at hg hI23 hf23
      have t23_10 : S23 0 10 = S 0 10 := hf23 0 10 (by omega)
      have t23_13 : S23 0 13 = S 0 13 := hf23 0 13 (by omega)
      skip
      try rw [e23] at hq23
      rw [hg] at hW
      clear hg
      refine lv_aload_n hX0 hB0 dX12_total_26 rfl (lv_at hl 0 rfl) ?_
      refine lv_sipush (v := zI 143) hX0 hB0 dX12_total_27 (by decide) ?_
      refine z_calli hW (va_runV (C := RX12) (As := [.int (zI 143)]) (rest := []) CX.fix (zk_degreeOf l o S23 143 hI23 (by constructor <;> omega)) (cwV 1 CX.fix.2.2.2.2 gX12_total_X12_degreeOf rfl rfl rfl (by decide +kernel) ⟨Nat.le_of_ble_eq_true rfl, Nat.le_of_ble_eq_true rfl⟩) (z_preV CX hW (r := (RX12, TX12, 37)) zMO_0 rfl) rfl rfl hl.1 rfl (lv_room (Nat.le_of_ble_eq_true rfl)) dX12_total_30 ⟨Nat.zero_le _, Nat.zero_le _⟩) (fun z30 gn H locs hok hW => ?_)
      obtain ⟨hz30, hg, hq30⟩ := hok
      rw [hg] at hW
      clear hg
      have e30 : zm_degreeOf S23 143 = z30 := hz30.symm
      clear hz30
      refine z_if_le (tgt := 38) CX dX12_total_33 (by decide) (by constructor <;> omega) (fun c_33 => ?_) (fun c_33 => ?_)
      ·
        refine lv_aload_n hX0 hB0 dX12_total_38 rfl (lv_at hl 0 rfl) ?_
        refine lv_iload_n hX0 hB0 dX12_total_39 rfl (lv_at hl 1 rfl) ?_
        refine z_calli hW (va_runV (C := RX12) (As := [.int (zI a)]) (rest := []) CX.fix (zk_degreeOf l o S23 a hI23 (by constructor <;> omega)) (cwV 1 CX.fix.2.2.2.2 gX12_total_X12_degreeOf rfl rfl rfl (by decide +kernel) ⟨Nat.le_of_ble_eq_true rfl, Nat.le_of_ble_eq_true rfl⟩) (z_preV CX hW (r := (RX12, TX12, 37)) zMO_0 rfl) rfl rfl hl.1 rfl (lv_room (Nat.le_of_ble_eq_true rfl)) dX12_total_40 ⟨Nat.zero_le _, Nat.zero_le _⟩) (fun z40 gn H locs hok hW => ?_)
        obtain ⟨hz40, hg, hq40⟩ := hok
        rw [hg] at hW
        clear hg
        have e40 : zm_degreeOf S23 a = z40 := hz40.symm
        clear hz40
        refine lv_aload_n hX0 hB0 dX12_total_43 rfl (lv_at hl 0 rfl) ?_
        refine lv_iload_n hX0 hB0 dX12_total_44 rfl (lv_at hl 2 rfl) ?_
        refine z_calli hW (va_runV (C := RX12) (As := [.int (zI b)]) (rest := [.int (zI z40)]) CX.fix (zk_degreeOf l o S23 b hI23 (by constructor <;> omega)) (cwV 1 CX.fix.2.2.2.2 gX12_total_X12_degreeOf rfl rfl rfl (by decide +kernel) ⟨Nat.le_of_ble_eq_true rfl, Nat.le_of_ble_eq_true rfl⟩) (z_preV CX hW (r := (RX12, TX12, 37)) zMO_0 rfl) rfl rfl hl.1 rfl (lv_room (Nat.le_of_ble_eq_true rfl)) dX12_total_45 ⟨Nat.zero_le _, Nat.zero_le _⟩) (fun z45 gn H locs hok hW => ?_)
        obtain ⟨hz45, hg, hq45⟩ := hok
        rw [hg] at hW
        clear hg
        have e45 : zm_degreeOf S23 b = z45 := hz45.symm
        clear hz45
        refine z_imul (z := z40 * z45) CX dX12_total_48 rfl ?_
        have hm48 := zbox_mul (a := z40) (b := z45) (A := 4) (B := 4) (by constructor <;> omega) (by constructor <;> omega) (C := 16) (by decide)
        refine lv_istore (lv' := [(4, .int (zI (z40 * z45))), (0, .ref o), (1, .int (zI a)), (2, .int (zI b)), (3, .int (zI what))]) hX0 hB0 dX12_total_49 hl (by decide) rfl (fun ls hl => ?_)
        refine lv_iload_n hX0 hB0 dX12_total_51 rfl (lv_at hl 4 rfl) ?_
        by_cases c_52_0 : what = 0
        ·
          refine z_tin (K := 0) (off := 32) (tgt := 84) CX dX12_total_52 (by constructor <;> omega) c_52_0 (by decide) (by decide) rfl (by decide) ?_
          refine lv_iload hX0 hB0 dX12_total_84 (lv_at hl 0 rfl) ?_
          have hE : zm_total S a b what = (z40 * z45, S23) := by unfold zm_total; exact zlet_e e3 (zif_f c_6 (zlet_e e12 (zif_f c_15 (zlet_e e23 (zlet_e e30 (zif_t c_33 (zlet_e e40 (zlet_e e45 (zif_t c_52_0 rfl)))))))))
          have hFr : ∀ kk ii : Nat, ¬ (kk = 0 ∧ ii = 23) ∧ ¬ (kk = 0 ∧ ii = 24) ∧ ¬ (kk = 0 ∧ ii = 26) ∧ ¬ (kk = 0 ∧ ii = 33) ∧ ¬ kk = 10 ∧ ¬ kk = 11 ∧ ¬ kk = 12 ∧ ¬ kk = 13 ∧ ¬ kk = 14 ∧ ¬ kk = 15 ∧ ¬ kk = 16 ∧ ¬ kk = 17 ∧ ¬ kk = 18 ∧ ¬ kk = 19 ∧ ¬ (kk = 3 ∧ 3500 ≤ (ii : Int)) → S23 kk ii = S kk ii := fun kk ii hk => (hf23 kk ii (by omega))
          rw [← hQ]
          exact z_iret (z := z40 * z45) CX hW (by rw [hE]; exact ⟨rfl, rfl, hI23, hFr, trivial⟩) rfl dX12_total_86
        by_cases c_52_1 : what = 1
        ·
          refine z_tin (K := 1) (off := 35) (tgt := 87) CX dX12_total_52 (by constructor <;> omega) c_52_1 (by decide) (by decide) rfl (by decide) ?_
          refine lv_aload_n hX0 hB0 dX12_total_87 rfl (lv_at hl 1 rfl) ?_
          refine lv_iload_n hX0 hB0 dX12_total_88 rfl (lv_at hl 2 rfl) ?_
          refine lv_iload_n hX0 hB0 dX12_total_89 rfl (lv_at hl 3 rfl) ?_
          refine z_calli hW (va_runV (C := RX12) (As := [.int (zI a), .int (zI b)]) (rest := []) CX.fix (zk_near l o S23 a b hI23 (by constructor <;> omega) (by constructor <;> omega)) (cwV 2 CX.fix.2.2.2.2 gX12_total_X12_near rfl rfl rfl (by decide +kernel) ⟨Nat.le_of_ble_eq_true rfl, Nat.le_of_ble_eq_true rfl⟩) (z_preV CX hW (r := (RX12, TX12, 37)) zMO_0 rfl) rfl rfl hl.1 rfl (lv_room (Nat.le_of_ble_eq_true rfl)) dX12_total_90 ⟨Nat.zero_le _, Nat.zero_le _⟩) (fun z90 gn H locs hok hW => ?_)
          obtain ⟨hz90, hg, hI90, hf90, hq90⟩ := hok
          obtain ⟨S90, hS90⟩ : ∃ q, q = (zm_near S23 a b).2 := ⟨_, rfl⟩
          rw [← hS90] at hg hI90 hf90
          have t90_10 : S90 0 10 = S23 0 10 := hf90 0 10 (by omega)
          have t90_13 : S90 0 13 = S23 0 13 := hf90 0 13 (by omega)
          skip
          try rw [← hS90] at hq90
          rw [hg] at hW
          clear hg
          have e90 : zm_near S23 a b = (z90, S90) := Prod.ext hz90.symm hS90.symm
          clear hz90 hS90
          have hE : zm_total S a b what = (z90, S90) := by unfold zm_total; exact zlet_e e3 (zif_f c_6 (zlet_e e12 (zif_f c_15 (zlet_e e23 (zlet_e e30 (zif_t c_33 (zlet_e e40 (zlet_e e45 (zif_f c_52_0 (zif_t c_52_1 (zlet_e e90 rfl)))))))))))
          have hFr : ∀ kk ii : Nat, ¬ (kk = 0 ∧ ii = 23) ∧ ¬ (kk = 0 ∧ ii = 24) ∧ ¬ (kk = 0 ∧ ii = 26) ∧ ¬ (kk = 0 ∧ ii = 33) ∧ ¬ kk = 10 ∧ ¬ kk = 11 ∧ ¬ kk = 12 ∧ ¬ kk = 13 ∧ ¬ kk = 14 ∧ ¬ kk = 15 ∧ ¬ kk = 16 ∧ ¬ kk = 17 ∧ ¬ kk = 18 ∧ ¬ kk = 19 ∧ ¬ (kk = 3 ∧ 3500 ≤ (ii : Int)) → S90 kk ii = S kk ii := fun kk ii hk => ((hf90 kk ii (by omega))).trans (hf23 kk ii (by omega))
          rw [← hQ]
          exact z_iret (z := z90) CX hW (by rw [hE]; exact ⟨rfl, rfl, hI90, hFr, trivial⟩) rfl dX12_total_93
        by_cases c_52_2 : what = 2
        ·
          refine z_tin (K := 2) (off := 42) (tgt := 94) CX dX12_total_52 (by constructor <;> omega) c_52_2 (by decide) (by decide) rfl (by decide) ?_
          refine lv_iload hX0 hB0 dX12_total_94 (lv_at hl 0 rfl) ?_
          refine lv_aload_n hX0 hB0 dX12_total_96 rfl (lv_at hl 1 rfl) ?_
          refine lv_iload_n hX0 hB0 dX12_total_97 rfl (lv_at hl 2 rfl) ?_
          refine lv_iload_n hX0 hB0 dX12_total_98 rfl (lv_at hl 3 rfl) ?_
          refine z_calli hW (va_runV (C := RX12) (As := [.int (zI a), .int (zI b)]) (rest := [.int (zI (z40 * z45))]) CX.fix (zk_near l o S23 a b hI23 (by constructor <;> omega) (by constructor <;> omega)) (cwV 2 CX.fix.2.2.2.2 gX12_total_X12_near rfl rfl rfl (by decide +kernel) ⟨Nat.le_of_ble_eq_true rfl, Nat.le_of_ble_eq_true rfl⟩) (z_preV CX hW (r := (RX12, TX12, 37)) zMO_0 rfl) rfl rfl hl.1 rfl (lv_room (Nat.le_of_ble_eq_true rfl)) dX12_total_99 ⟨Nat.zero_le _, Nat.zero_le _⟩) (fun z99 gn H locs hok hW => ?_)
          obtain ⟨hz99, hg, hI99, hf99, hq99⟩ := hok
          obtain ⟨S99, hS99⟩ : ∃ q, q = (zm_near S23 a b).2 := ⟨_, rfl⟩
          rw [← hS99] at hg hI99 hf99
          have t99_10 : S99 0 10 = S23 0 10 := hf99 0 10 (by omega)
          have t99_13 : S99 0 13 = S23 0 13 := hf99 0 13 (by omega)
          skip
          try rw [← hS99] at hq99
          rw [hg] at hW
          clear hg
          have e99 : zm_near S23 a b = (z99, S99) := Prod.ext hz99.symm hS99.symm
          clear hz99 hS99
          refine z_isub (z := (z40 * z45) - z99) CX dX12_total_102 rfl ?_
          have hE : zm_total S a b what = ((z40 * z45) - z99, S99) := by unfold zm_total; exact zlet_e e3 (zif_f c_6 (zlet_e e12 (zif_f c_15 (zlet_e e23 (zlet_e e30 (zif_t c_33 (zlet_e e40 (zlet_e e45 (zif_f c_52_0 (zif_f c_52_1 (zif_t c_52_2 (zlet_e e99 rfl))))))))))))
          have hFr : ∀ kk ii : Nat, ¬ (kk = 0 ∧ ii = 23) ∧ ¬ (kk = 0 ∧ ii = 24) ∧ ¬ (kk = 0 ∧ ii = 26) ∧ ¬ (kk = 0 ∧ ii = 33) ∧ ¬ kk = 10 ∧ ¬ kk = 11 ∧ ¬ kk = 12 ∧ ¬ kk = 13 ∧ ¬ kk = 14 ∧ ¬ kk = 15 ∧ ¬ kk = 16 ∧ ¬ kk = 17 ∧ ¬ kk = 18 ∧ ¬ kk = 19 ∧ ¬ (kk = 3 ∧ 3500 ≤ (ii : Int)) → S99 kk ii = S kk ii := fun kk ii hk => ((hf99 kk ii (by omega))).trans (hf23 kk ii (by omega))
          rw [← hQ]
          exact z_iret (z := (z40 * z45) - z99) CX hW (by rw [hE]; exact ⟨rfl, rfl, hI99, hFr, trivial⟩) rfl dX12_total_103
        by_cases c_52_3 : what = 3
        ·
          refine z_tin (K := 3) (off := 52) (tgt := 104) CX dX12_total_52 (by constructor <;> omega) c_52_3 (by decide) (by decide) rfl (by decide) ?_
          refine lv_aload_n hX0 hB0 dX12_total_104 rfl (lv_at hl 1 rfl) ?_
          refine lv_iload_n hX0 hB0 dX12_total_105 rfl (lv_at hl 2 rfl) ?_
          refine lv_iload_n hX0 hB0 dX12_total_106 rfl (lv_at hl 3 rfl) ?_
          have hmy := zmany_rng hpb
          rw [← t23_10] at hmy
          refine lv_iconst (v := zI 0) hX0 hB0 dX12_total_107 rfl ?_
          refine lv_aload_n hX0 hB0 dX12_total_108 rfl (lv_at hl 1 rfl) ?_
          refine z_get (Cn := RX12) (T := TX12) (N := 37) CX hW (v := .int (zI (S23 0 10))) zMO_0 rfl (fun w h => List.mem_cons_of_mem _ (List.mem_append_right _ h)) 10 (by decide) (List.mem_of_getElem? (i := 1) rfl) rfl rfl dX12_total_109 ?_
          have hr109 := hI23.s10
          refine lv_aload_n hX0 hB0 dX12_total_112 rfl (lv_at hl 1 rfl) ?_
          refine z_get (Cn := RX12) (T := TX12) (N := 37) CX hW (v := .int (zI (S23 0 10))) zMO_0 rfl (fun w h => List.mem_cons_of_mem _ (List.mem_append_right _ h)) 10 (by decide) (List.mem_of_getElem? (i := 1) rfl) rfl rfl dX12_total_113 ?_
          have hr113 := hI23.s10
          refine z_imul (z := (S23 0 10) * (S23 0 10)) CX dX12_total_116 rfl ?_
          have hm116 := zbox_mul0 (a := S23 0 10) (b := S23 0 10) (A := 31) (B := 31) (by constructor <;> omega) (by constructor <;> omega) (C := 961) (by decide)
          have hFc117 : ∀ kk ii : Nat, ¬ (kk = 0 ∧ ii = 23) ∧ ¬ (kk = 0 ∧ ii = 24) ∧ ¬ (kk = 0 ∧ ii = 26) ∧ ¬ (kk = 0 ∧ ii = 33) ∧ ¬ kk = 10 ∧ ¬ kk = 11 ∧ ¬ kk = 12 ∧ ¬ kk = 13 ∧ ¬ kk = 14 ∧ ¬ kk = 15 ∧ ¬ kk = 16 ∧ ¬ kk = 17 ∧ ¬ kk = 18 ∧ ¬ kk = 19 ∧ ¬ (kk = 3 ∧ 3500 ≤ (ii : Int)) → S23 kk ii = S kk ii := fun kk ii hk => (hf23 kk ii (by omega))
          refine z_calli hW (va_runV (C := RX12) (As := [.int (zI a), .int (zI b), .int (zI 0), .int (zI ((S23 0 10) * (S23 0 10)))]) (rest := []) CX.fix (zk_timesAmong l o S23 a b 0 ((S23 0 10) * (S23 0 10)) hI23 (by constructor <;> omega) (by constructor <;> omega) (by constructor <;> omega) (by constructor <;> omega) (hH.mono (hFc117 0 10 (by omega)) (hFc117 0 13 (by omega)) (fun qq hqq => hFc117 3 qq (by omega))) (by omega) (by omega) (by rw [t23_10]; omega)) (cwV 4 CX.fix.2.2.2.2 gX12_total_X12_timesAmong rfl rfl rfl (by decide +kernel) ⟨Nat.le_of_ble_eq_true rfl, Nat.le_of_ble_eq_true rfl⟩) (z_preV CX hW (r := (RX12, TX12, 37)) zMO_0 rfl) rfl rfl hl.1 rfl (lv_room (Nat.le_of_ble_eq_true rfl)) dX12_total_117 ⟨Nat.zero_le _, Nat.zero_le _⟩) (fun z117 gn H locs hok hW => ?_)
          obtain ⟨hz117, hg, hI117, hf117, hq117⟩ := hok
          obtain ⟨S117, hS117⟩ : ∃ q, q = (zm_timesAmong S23 a b 0 ((S23 0 10) * (S23 0 10))).2 := ⟨_, rfl⟩
          rw [← hS117] at hg hI117 hf117
          have t117_10 : S117 0 10 = S23 0 10 := hf117 0 10 (by omega)
          have t117_13 : S117 0 13 = S23 0 13 := hf117 0 13 (by omega)
          skip
          try rw [← hS117] at hq117
          rw [hg] at hW
          clear hg
          have e117 : zm_timesAmong S23 a b 0 ((S23 0 10) * (S23 0 10)) = (z117, S117) := Prod.ext hz117.symm hS117.symm
          clear hz117 hS117
          have hE : zm_total S a b what = (z117, S117) := by unfold zm_total; exact zlet_e e3 (zif_f c_6 (zlet_e e12 (zif_f c_15 (zlet_e e23 (zlet_e e30 (zif_t c_33 (zlet_e e40 (zlet_e e45 (zif_f c_52_0 (zif_f c_52_1 (zif_f c_52_2 (zif_t c_52_3 (zlet_e e117 rfl)))))))))))))
          have hFr : ∀ kk ii : Nat, ¬ (kk = 0 ∧ ii = 23) ∧ ¬ (kk = 0 ∧ ii = 24) ∧ ¬ (kk = 0 ∧ ii = 26) ∧ ¬ (kk = 0 ∧ ii = 33) ∧ ¬ kk = 10 ∧ ¬ kk = 11 ∧ ¬ kk = 12 ∧ ¬ kk = 13 ∧ ¬ kk = 14 ∧ ¬ kk = 15 ∧ ¬ kk = 16 ∧ ¬ kk = 17 ∧ ¬ kk = 18 ∧ ¬ kk = 19 ∧ ¬ (kk = 3 ∧ 3500 ≤ (ii : Int)) → S117 kk ii = S kk ii := fun kk ii hk => ((hf117 kk ii (by omega))).trans (hf23 kk ii (by omega))
          rw [← hQ]
          exact z_iret (z := z117) CX hW (by rw [hE]; exact ⟨rfl, rfl, hI117, hFr, trivial⟩) rfl dX12_total_120
        refine z_tout (tgt := 121) CX dX12_total_52 (by constructor <;> omega) (by omega) (by decide) ?_
        refine lv_aload_n hX0 hB0 dX12_total_121 rfl (lv_at hl 1 rfl) ?_
        refine lv_iload_n hX0 hB0 dX12_total_122 rfl (lv_at hl 2 rfl) ?_
        refine lv_iload_n hX0 hB0 dX12_total_123 rfl (lv_at hl 3 rfl) ?_
        have hmy := zmany_rng hpb
        rw [← t23_10] at hmy
        refine lv_aload_n hX0 hB0 dX12_total_124 rfl (lv_at hl 1 rfl) ?_
        refine z_get (Cn := RX12) (T := TX12) (N := 37) CX hW (v := .int (zI (S23 0 10))) zMO_0 rfl (fun w h => List.mem_cons_of_mem _ (List.mem_append_right _ h)) 10 (by decide) (List.mem_of_getElem? (i := 1) rfl) rfl rfl dX12_total_125 ?_
        have hr125 := hI23.s10
        refine lv_aload_n hX0 hB0 dX12_total_128 rfl (lv_at hl 1 rfl) ?_
        refine z_get (Cn := RX12) (T := TX12) (N := 37) CX hW (v := .int (zI (S23 0 10))) zMO_0 rfl (fun w h => List.mem_cons_of_mem _ (List.mem_append_right _ h)) 10 (by decide) (List.mem_of_getElem? (i := 1) rfl) rfl rfl dX12_total_129 ?_
        have hr129 := hI23.s10
        refine z_imul (z := (S23 0 10) * (S23 0 10)) CX dX12_total_132 rfl ?_
        have hm132 := zbox_mul0 (a := S23 0 10) (b := S23 0 10) (A := 31) (B := 31) (by constructor <;> omega) (by constructor <;> omega) (C := 961) (by decide)
        refine lv_aload_n hX0 hB0 dX12_total_133 rfl (lv_at hl 1 rfl) ?_
        refine z_calli hW (va_runV (C := RX12) (As := []) (rest := [.int (zI ((S23 0 10) * (S23 0 10))), .int (zI b), .int (zI a), .ref o]) CX.fix (zk_points l o S23  hI23 ) (cwV 0 CX.fix.2.2.2.2 gX12_total_X12_points rfl rfl rfl (by decide +kernel) ⟨Nat.le_of_ble_eq_true rfl, Nat.le_of_ble_eq_true rfl⟩) (z_preV CX hW (r := (RX12, TX12, 37)) zMO_0 rfl) rfl rfl hl.1 rfl (lv_room (Nat.le_of_ble_eq_true rfl)) dX12_total_134 ⟨Nat.zero_le _, Nat.zero_le _⟩) (fun z134 gn H locs hok hW => ?_)
        obtain ⟨hz134, hg, hq134⟩ := hok
        rw [hg] at hW
        clear hg
        have e134 : zm_points S23 = z134 := hz134.symm
        clear hz134
        have hFc137 : ∀ kk ii : Nat, ¬ (kk = 0 ∧ ii = 23) ∧ ¬ (kk = 0 ∧ ii = 24) ∧ ¬ (kk = 0 ∧ ii = 26) ∧ ¬ (kk = 0 ∧ ii = 33) ∧ ¬ kk = 10 ∧ ¬ kk = 11 ∧ ¬ kk = 12 ∧ ¬ kk = 13 ∧ ¬ kk = 14 ∧ ¬ kk = 15 ∧ ¬ kk = 16 ∧ ¬ kk = 17 ∧ ¬ kk = 18 ∧ ¬ kk = 19 ∧ ¬ (kk = 3 ∧ 3500 ≤ (ii : Int)) → S23 kk ii = S kk ii := fun kk ii hk => (hf23 kk ii (by omega))
        refine z_calli hW (va_runV (C := RX12) (As := [.int (zI a), .int (zI b), .int (zI ((S23 0 10) * (S23 0 10))), .int (zI z134)]) (rest := []) CX.fix (zk_timesAmong l o S23 a b ((S23 0 10) * (S23 0 10)) z134 hI23 (by constructor <;> omega) (by constructor <;> omega) (by constructor <;> omega) (by constructor <;> omega) (hH.mono (hFc137 0 10 (by omega)) (hFc137 0 13 (by omega)) (fun qq hqq => hFc137 3 qq (by omega))) (by omega) (by omega) (by rw [t23_10]; rw [t23_10] at hq134; omega)) (cwV 4 CX.fix.2.2.2.2 gX12_total_X12_timesAmong rfl rfl rfl (by decide +kernel) ⟨Nat.le_of_ble_eq_true rfl, Nat.le_of_ble_eq_true rfl⟩) (z_preV CX hW (r := (RX12, TX12, 37)) zMO_0 rfl) rfl rfl hl.1 rfl (lv_room (Nat.le_of_ble_eq_true rfl)) dX12_total_137 ⟨Nat.zero_le _, Nat.zero_le _⟩) (fun z137 gn H locs hok hW => ?_)
        obtain ⟨hz137, hg, hI137, hf137, hq137⟩ := hok
        obtain ⟨S137, hS137⟩ : ∃ q, q = (zm_timesAmong S23 a b ((S23 0 10) * (S23 0 10)) z134).2 := ⟨_, rfl⟩
        rw [← hS137] at hg hI137 hf137
        have t137_10 : S137 0 10 = S23 0 10 := hf137 0 10 (by omega)
        have t137_13 : S137 0 13 = S23 0 13 := hf137 0 13 (by omega)
        skip
        try rw [← hS137] at hq137
        rw [hg] at hW
        clear hg
        have e137 : zm_timesAmong S23 a b ((S23 0 10) * (S23 0 10)) z134 = (z137, S137) := Prod.ext hz137.symm hS137.symm
        clear hz137 hS137
        have hE : zm_total S a b what = (z137, S137) := by unfold zm_total; exact zlet_e e3 (zif_f c_6 (zlet_e e12 (zif_f c_15 (zlet_e e23 (zlet_e e30 (zif_t c_33 (zlet_e e40 (zlet_e e45 (zif_f c_52_0 (zif_f c_52_1 (zif_f c_52_2 (zif_f c_52_3 (zlet_e e134 (zlet_e e137 rfl))))))))))))))
        have hFr : ∀ kk ii : Nat, ¬ (kk = 0 ∧ ii = 23) ∧ ¬ (kk = 0 ∧ ii = 24) ∧ ¬ (kk = 0 ∧ ii = 26) ∧ ¬ (kk = 0 ∧ ii = 33) ∧ ¬ kk = 10 ∧ ¬ kk = 11 ∧ ¬ kk = 12 ∧ ¬ kk = 13 ∧ ¬ kk = 14 ∧ ¬ kk = 15 ∧ ¬ kk = 16 ∧ ¬ kk = 17 ∧ ¬ kk = 18 ∧ ¬ kk = 19 ∧ ¬ (kk = 3 ∧ 3500 ≤ (ii : Int)) → S137 kk ii = S kk ii := fun kk ii hk => ((hf137 kk ii (by omega))).trans (hf23 kk ii (by omega))
        rw [← hQ]
        exact z_iret (z := z137) CX hW (by rw [hE]; exact ⟨rfl, rfl, hI137, hFr, trivial⟩) rfl dX12_total_140
      ·
        have d_33 : ¬ z30 ≤ 0 := by omega
        refine lv_iconst (v := zI (-1)) hX0 hB0 dX12_total_36 rfl ?_
        have hE : zm_total S a b what = (-1, S23) := by unfold zm_total; exact zlet_e e3 (zif_f c_6 (zlet_e e12 (zif_f c_15 (zlet_e e23 (zlet_e e30 (zif_f d_33 rfl))))))
        have hFr : ∀ kk ii : Nat, ¬ (kk = 0 ∧ ii = 23) ∧ ¬ (kk = 0 ∧ ii = 24) ∧ ¬ (kk = 0 ∧ ii = 26) ∧ ¬ (kk = 0 ∧ ii = 33) ∧ ¬ kk = 10 ∧ ¬ kk = 11 ∧ ¬ kk = 12 ∧ ¬ kk = 13 ∧ ¬ kk = 14 ∧ ¬ kk = 15 ∧ ¬ kk = 16 ∧ ¬ kk = 17 ∧ ¬ kk = 18 ∧ ¬ kk = 19 ∧ ¬ (kk = 3 ∧ 3500 ≤ (ii : Int)) → S23 kk ii = S kk ii := fun kk ii hk => (hf23 kk ii (by omega))
        rw [← hQ]
        exact z_iret (z := -1) CX hW (by rw [hE]; exact ⟨rfl, rfl, hI23, hFr, trivial⟩) rfl dX12_total_37
    ·
      refine lv_iconst (v := zI (-1)) hX0 hB0 dX12_total_18 rfl ?_
      have hE : zm_total S a b what = (-1, S) := by unfold zm_total; exact zlet_e e3 (zif_f c_6 (zlet_e e12 (zif_t c_15 rfl)))
      have hFr : ∀ kk ii : Nat, ¬ (kk = 0 ∧ ii = 23) ∧ ¬ (kk = 0 ∧ ii = 24) ∧ ¬ (kk = 0 ∧ ii = 26) ∧ ¬ (kk = 0 ∧ ii = 33) ∧ ¬ kk = 10 ∧ ¬ kk = 11 ∧ ¬ kk = 12 ∧ ¬ kk = 13 ∧ ¬ kk = 14 ∧ ¬ kk = 15 ∧ ¬ kk = 16 ∧ ¬ kk = 17 ∧ ¬ kk = 18 ∧ ¬ kk = 19 ∧ ¬ (kk = 3 ∧ 3500 ≤ (ii : Int)) → S kk ii = S kk ii := fun kk ii hk => rfl
      rw [← hQ]
      exact z_iret (z := -1) CX hW (by rw [hE]; exact ⟨rfl, rfl, hI, hFr, trivial⟩) rfl dX12_total_19
end ZMp
