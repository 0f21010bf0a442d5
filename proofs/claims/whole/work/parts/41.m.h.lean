section ZMl
def zm_orderOf_L12 (S : zS2) (g : Int) (i4 : Int) : Int → Int → Int := fun i12 s12 => (fun (n12 : Int) => zlet (zm_cell S g i4 i12) (fun z25 => (if z25 = 0 then n12 else (if n12 ≤ i4 + i12 then n12 else (i4 + i12))))) s12
def zm_orderOf_L4 (S : zS2) (g : Int) : Int → Int → Int := fun i4 s4 => (fun (n4 : Int) => zlet (zfor (zm_orderOf_L12 S g i4) 0 n4 ((4 - i4) + 1 - 0).toNat) (fun n12 => n12)) s4
def zm_orderOf (S : zS2) (g : Int) : Int := zlet (zfor (zm_orderOf_L4 S g) 0 5 (4 + 1 - 0 : Int).toNat) (fun n4 => n4)
set_option maxRecDepth 100000 in
set_option maxHeartbeats 4000000 in
theorem zk_orderOf (l : Launch) {D : va_G} {cI cJ cZ cP cS cM : ClassId} {L : List Nat} {sz : Nat} {f : Nat → va_E} (o : Nat) (S : zS2) (g : Int) (hI : mI S) (hg : 0 ≤ g ∧ g ≤ 238) : zMi l yX12_orderOf wsX12_orderOf 1 23 D (zT cI cJ cZ cP cS cM) L sz (zMO cI cJ o S f) [.ref o, .int (zI g)] (fun zv gv => zv = zm_orderOf S g ∧ gv = zMO cI cJ o S f ∧ 0 ≤ zv ∧ zv ≤ 5) := by
  refine zWalk.met (nL := 5) (ret := (some .int)) (cc := cX12_orderOf) (by decide) rfl (Nat.le_of_ble_eq_true rfl) ?_
  intro pg en st mi ag bl mt cd ls CX hW hl
  have CX : zC pg st mi ag mt cd cX12_orderOf 5 (some .int) RX12 wsX12_orderOf := CX
  generalize hQ : MQ bl _ ag st 0 0 _ = Q
  have hX0 := CX.1
  have hB0 := CX.2.1
  have hl : lv_has ls 5 [(0, .ref o), (1, .int (zI g))] := hl
  obtain ⟨H, eH⟩ : ∃ H, H = st.heap := ⟨_, rfl⟩
  obtain ⟨locs, eL⟩ : ∃ L : List Loc, L = [] := ⟨_, rfl⟩
  have hW : zW D (zT cI cJ cZ cP cS cM) L (zQ L sz) st (zMO cI cJ o S f) st.heap H locs := by rw [eH, eL]; exact hW
  suffices hgo : W pg l en ({ frames := 1, cells := 0, slots := 0, locals := 23 } : Room) st mi ag bl mt cd H locs 0 0 Q (F0 mi 0 ls []) by rw [eH, eL] at hgo; exact hgo
  clear eH eL
  have hpb := hI.s10
  refine lv_iconst (v := zI 5) hX0 hB0 dX12_orderOf_0 rfl ?_
  refine lv_istore_n (lv' := [(2, .int (zI 5)), (0, .ref o), (1, .int (zI g))]) hX0 hB0 dX12_orderOf_1 rfl hl (by decide) rfl (fun ls hl => ?_)
  refine lv_iconst (v := zI 0) hX0 hB0 dX12_orderOf_2 rfl ?_
  refine lv_istore_n (lv' := [(3, .int (zI 0)), (2, .int (zI 5)), (0, .ref o), (1, .int (zI g))]) hX0 hB0 dX12_orderOf_3 rfl hl (by decide) rfl (fun ls hl => ?_)
  have hL4 : ∀ (fu : Nat) (i4 : Int) (n4 : Int), ((0 ≤ i4 ∧ i4 ≤ 4 + 1) ∧ zfor (zm_orderOf_L4 S g) 0 5 (i4 - 0).toNat = n4 ∧ 0 ≤ n4 ∧ n4 ≤ 5) → (4 + 1 - i4).toNat < fu → ∀ (H : Heap) (locs : List Loc) (ls : Array Slot), zW D (zT cI cJ cZ cP cS cM) L (zQ L sz) st (zMO cI cJ o S f) st.heap H locs → lv_has ls 5 [(3, .int (zI i4)), (2, .int (zI n4)), (0, .ref o), (1, .int (zI g))] → W pg l en ({ frames := 1, cells := 0, slots := 0, locals := 23 } : Room) st mi ag bl mt cd H locs 0 0 Q (F0 mi 4 ls []) := by
    intro fu
    induction fu with
    | zero => intro i4 n4 _ hfu; exact absurd hfu (Nat.not_lt_zero _)
    | succ fu ih4 =>
      intro i4 n4 hinv hfu4 H locs ls hW hl
      obtain ⟨⟨hlo4, hhi4⟩, hz4, han4, hbn4⟩ := hinv
      refine lv_iload_n hX0 hB0 dX12_orderOf_4 rfl (lv_at hl 0 rfl) ?_
      refine lv_iconst (v := zI 4) hX0 hB0 dX12_orderOf_5 rfl ?_
      refine z_icmp_gt (tgt := 60) CX dX12_orderOf_6 (by decide) (by constructor <;> omega) (by constructor <;> omega) (fun c_6 => ?_) (fun c_6 => ?_)
      ·
        have e4 : zfor (zm_orderOf_L4 S g) 0 5 (4 + 1 - 0 : Int).toNat = n4 := by rw [show (4 + 1 - 0 : Int).toNat = (i4 - 0).toNat by omega]; exact hz4
        refine lv_iload_n hX0 hB0 dX12_orderOf_60 rfl (lv_at hl 1 rfl) ?_
        have hE : zm_orderOf S g = n4 := by unfold zm_orderOf; exact zlet_e e4 rfl
        rw [← hQ]
        exact z_iret (z := n4) CX hW (by rw [hE]; exact ⟨rfl, rfl, (show 0 ≤ n4 ∧ n4 ≤ 5 from by omega)⟩) rfl dX12_orderOf_61
      ·
        refine lv_iconst (v := zI 0) hX0 hB0 dX12_orderOf_9 rfl ?_
        refine lv_istore (lv' := [(4, .int (zI 0)), (3, .int (zI i4)), (2, .int (zI n4)), (0, .ref o), (1, .int (zI g))]) hX0 hB0 dX12_orderOf_10 hl (by decide) rfl (fun ls hl => ?_)
        have hL12 : ∀ (fu : Nat) (i12 : Int) (n12 : Int), ((0 ≤ i12 ∧ i12 ≤ 4 - i4 + 1) ∧ zfor (zm_orderOf_L12 S g i4) 0 n4 (i12 - 0).toNat = n12 ∧ 0 ≤ n12 ∧ n12 ≤ 5) → ((4 - i4) + 1 - i12).toNat < fu → ∀ (H : Heap) (locs : List Loc) (ls : Array Slot), zW D (zT cI cJ cZ cP cS cM) L (zQ L sz) st (zMO cI cJ o S f) st.heap H locs → lv_has ls 5 [(4, .int (zI i12)), (2, .int (zI n12)), (3, .int (zI i4)), (0, .ref o), (1, .int (zI g))] → W pg l en ({ frames := 1, cells := 0, slots := 0, locals := 23 } : Room) st mi ag bl mt cd H locs 0 0 Q (F0 mi 12 ls []) := by
          intro fu
          induction fu with
          | zero => intro i12 n12 _ hfu; exact absurd hfu (Nat.not_lt_zero _)
          | succ fu ih12 =>
            intro i12 n12 hinv hfu12 H locs ls hW hl
            obtain ⟨⟨hlo12, hhi12⟩, hz12, han12, hbn12⟩ := hinv
            refine lv_iload_n hX0 hB0 dX12_orderOf_12 rfl (lv_at hl 2 rfl) ?_
            refine lv_iload hX0 hB0 dX12_orderOf_13 (lv_at hl 0 rfl) ?_
            refine z_iadd (z := i4 + i12) CX dX12_orderOf_15 rfl ?_
            refine lv_iconst (v := zI 4) hX0 hB0 dX12_orderOf_16 rfl ?_
            refine z_icmp_gt (tgt := 54) CX dX12_orderOf_17 (by decide) (by constructor <;> omega) (by constructor <;> omega) (fun c_17 => ?_) (fun c_17 => ?_)
            ·
              have e12 : zfor (zm_orderOf_L12 S g i4) 0 n4 ((4 - i4) + 1 - 0).toNat = n12 := by rw [show ((4 - i4) + 1 - 0).toNat = (i12 - 0).toNat by omega]; exact hz12
              refine lv_iinc (v := zI (i4 + 1)) (lv' := [(3, .int (zI (i4 + 1))), (4, .int (zI i12)), (2, .int (zI n12)), (0, .ref o), (1, .int (zI g))]) hX0 hB0 dX12_orderOf_54 hl (k := 2) rfl (zI_add _ _) (by decide) rfl (fun ls hl => ?_)
              refine lv_goto (tgt := 4) hX0 hB0 dX12_orderOf_57 (by decide) ?_
              exact ih4 (i4 + 1) n12 ⟨⟨by omega, by omega⟩, (zfor_s _ _ _ (by omega)).trans ((congrArg (zm_orderOf_L4 S g i4) hz4).trans (by unfold zm_orderOf_L4; exact zlet_e e12 rfl)), by omega, by omega⟩ (by omega) H locs ls hW (lv_sub hl [0, 2, 3, 4] rfl)
            ·
              refine lv_aload_n hX0 hB0 dX12_orderOf_20 rfl (lv_at hl 3 rfl) ?_
              refine lv_iload_n hX0 hB0 dX12_orderOf_21 rfl (lv_at hl 4 rfl) ?_
              refine lv_iload_n hX0 hB0 dX12_orderOf_22 rfl (lv_at hl 2 rfl) ?_
              refine lv_iload hX0 hB0 dX12_orderOf_23 (lv_at hl 0 rfl) ?_
              refine z_calli hW (va_runV (C := RX12) (As := [.int (zI g), .int (zI i4), .int (zI i12)]) (rest := []) CX.fix (zk_cell l o S g i4 i12 hI (by constructor <;> omega) (by constructor <;> omega) (by constructor <;> omega)) (cwV 3 CX.fix.2.2.2.2 gX12_orderOf_X12_cell rfl rfl rfl (by decide +kernel) ⟨Nat.le_of_ble_eq_true rfl, Nat.le_of_ble_eq_true rfl⟩) (z_preV CX hW (r := (RX12, TX12, 37)) zMO_0 rfl) rfl rfl hl.1 rfl (lv_room (Nat.le_of_ble_eq_true rfl)) dX12_orderOf_25 ⟨Nat.zero_le _, Nat.zero_le _⟩) (fun z25 gn H locs hok hW => ?_)
              obtain ⟨hz25, hg, hq25⟩ := hok
              rw [hg] at hW
              clear hg
              have e25 : zm_cell S g i4 i12 = z25 := hz25.symm
              clear hz25
              refine z_if_eq (tgt := 46) CX dX12_orderOf_28 (by decide) (by constructor <;> omega) (fun c_28 => ?_) (fun c_28 => ?_)
              ·
                refine lv_iload_n hX0 hB0 dX12_orderOf_46 rfl (lv_at hl 1 rfl) ?_
                refine lv_istore_n (lv' := [(2, .int (zI n12)), (4, .int (zI i12)), (3, .int (zI i4)), (0, .ref o), (1, .int (zI g))]) hX0 hB0 dX12_orderOf_47 rfl hl (by decide) rfl (fun ls hl => ?_)
                refine lv_iinc (v := zI (i12 + 1)) (lv' := [(4, .int (zI (i12 + 1))), (2, .int (zI n12)), (3, .int (zI i4)), (0, .ref o), (1, .int (zI g))]) hX0 hB0 dX12_orderOf_48 hl (k := 1) rfl (zI_add _ _) (by decide) rfl (fun ls hl => ?_)
                refine lv_goto (tgt := 12) hX0 hB0 dX12_orderOf_51 (by decide) ?_
                exact ih12 (i12 + 1) n12 ⟨⟨by omega, by omega⟩, (zfor_s _ _ _ (by omega)).trans ((congrArg (zm_orderOf_L12 S g i4 i12) hz12).trans (by unfold zm_orderOf_L12; exact zlet_e e25 (zif_t c_28 rfl))), by omega, by omega⟩ (by omega) H locs ls hW (lv_sub hl [0, 1, 2, 3, 4] rfl)
              ·
                refine lv_iload_n hX0 hB0 dX12_orderOf_31 rfl (lv_at hl 2 rfl) ?_
                refine lv_iload hX0 hB0 dX12_orderOf_32 (lv_at hl 0 rfl) ?_
                refine z_iadd (z := i4 + i12) CX dX12_orderOf_34 rfl ?_
                refine lv_iload_n hX0 hB0 dX12_orderOf_35 rfl (lv_at hl 1 rfl) ?_
                refine z_icmp_ge (tgt := 46) CX dX12_orderOf_36 (by decide) (by constructor <;> omega) (by constructor <;> omega) (fun c_36 => ?_) (fun c_36 => ?_)
                ·
                  refine lv_iload_n hX0 hB0 dX12_orderOf_46 rfl (lv_at hl 1 rfl) ?_
                  refine lv_istore_n (lv' := [(2, .int (zI n12)), (4, .int (zI i12)), (3, .int (zI i4)), (0, .ref o), (1, .int (zI g))]) hX0 hB0 dX12_orderOf_47 rfl hl (by decide) rfl (fun ls hl => ?_)
                  refine lv_iinc (v := zI (i12 + 1)) (lv' := [(4, .int (zI (i12 + 1))), (2, .int (zI n12)), (3, .int (zI i4)), (0, .ref o), (1, .int (zI g))]) hX0 hB0 dX12_orderOf_48 hl (k := 1) rfl (zI_add _ _) (by decide) rfl (fun ls hl => ?_)
                  refine lv_goto (tgt := 12) hX0 hB0 dX12_orderOf_51 (by decide) ?_
                  exact ih12 (i12 + 1) n12 ⟨⟨by omega, by omega⟩, (zfor_s _ _ _ (by omega)).trans ((congrArg (zm_orderOf_L12 S g i4 i12) hz12).trans (by unfold zm_orderOf_L12; exact zlet_e e25 (zif_f c_28 (zif_t c_36 rfl)))), by omega, by omega⟩ (by omega) H locs ls hW (lv_sub hl [0, 1, 2, 3, 4] rfl)
                ·
                  have d_36 : ¬ n12 ≤ i4 + i12 := by omega
                  refine lv_iload_n hX0 hB0 dX12_orderOf_39 rfl (lv_at hl 2 rfl) ?_
                  refine lv_iload hX0 hB0 dX12_orderOf_40 (lv_at hl 0 rfl) ?_
                  refine z_iadd (z := i4 + i12) CX dX12_orderOf_42 rfl ?_
                  refine lv_goto (tgt := 47) hX0 hB0 dX12_orderOf_43 (by decide) ?_
                  refine lv_istore_n (lv' := [(2, .int (zI (i4 + i12))), (4, .int (zI i12)), (3, .int (zI i4)), (0, .ref o), (1, .int (zI g))]) hX0 hB0 dX12_orderOf_47 rfl hl (by decide) rfl (fun ls hl => ?_)
                  refine lv_iinc (v := zI (i12 + 1)) (lv' := [(4, .int (zI (i12 + 1))), (2, .int (zI (i4 + i12))), (3, .int (zI i4)), (0, .ref o), (1, .int (zI g))]) hX0 hB0 dX12_orderOf_48 hl (k := 1) rfl (zI_add _ _) (by decide) rfl (fun ls hl => ?_)
                  refine lv_goto (tgt := 12) hX0 hB0 dX12_orderOf_51 (by decide) ?_
                  exact ih12 (i12 + 1) (i4 + i12) ⟨⟨by omega, by omega⟩, (zfor_s _ _ _ (by omega)).trans ((congrArg (zm_orderOf_L12 S g i4 i12) hz12).trans (by unfold zm_orderOf_L12; exact zlet_e e25 (zif_f c_28 (zif_f d_36 rfl)))), by omega, by omega⟩ (by omega) H locs ls hW (lv_sub hl [0, 1, 2, 3, 4] rfl)
        exact hL12 _ 0 n4 ⟨⟨by omega, by omega⟩, zfor_0 _ _ _, by omega, by omega⟩ (Nat.lt_succ_self _) H locs ls hW (lv_sub hl [0, 2, 1, 3, 4] rfl)
  exact hL4 _ 0 5 ⟨⟨by omega, by omega⟩, zfor_0 _ _ _, by omega, by omega⟩ (Nat.lt_succ_self _) H locs ls hW (lv_sub hl [0, 1, 2, 3] rfl)
def zm_orderAt (S : zS2) (cv : Int) (pt : Int) : Int × zS2 := zlet (zm_laysLocal S 141 cv pt) (fun S6 => zlet (zm_orderOf S6 141) (fun z13 => (z13, S6)))
set_option maxRecDepth 100000 in
set_option maxHeartbeats 4000000 in
theorem zk_orderAt (l : Launch) {D : va_G} {cI cJ cZ cP cS cM : ClassId} {L : List Nat} {sz : Nat} {f : Nat → va_E} (o : Nat) (S : zS2) (cv : Int) (pt : Int) (hI : mI S) (hcv : 0 ≤ cv ∧ cv ≤ 238) (hpt : 0 ≤ pt ∧ pt ≤ 992) : zMi l yX12_orderAt wsX12_orderAt 4 105 D (zT cI cJ cZ cP cS cM) L sz (zMO cI cJ o S f) [.ref o, .int (zI cv), .int (zI pt)] (fun zv gv => zv = (zm_orderAt S cv pt).1 ∧ gv = zMO cI cJ o (zm_orderAt S cv pt).2 f ∧ mI (zm_orderAt S cv pt).2 ∧ (∀ kk ii : Nat, ¬ (kk = 3 ∧ 3500 ≤ (ii : Int)) → (zm_orderAt S cv pt).2 kk ii = S kk ii) ∧ 0 ≤ zv ∧ zv ≤ 5) := by
  refine zWalk.met (nL := 3) (ret := (some .int)) (cc := cX12_orderAt) (by decide) rfl (Nat.le_of_ble_eq_true rfl) ?_
  intro pg en st mi ag bl mt cd ls CX hW hl
  have CX : zC pg st mi ag mt cd cX12_orderAt 3 (some .int) RX12 wsX12_orderAt := CX
  generalize hQ : MQ bl _ ag st 0 0 _ = Q
  have hX0 := CX.1
  have hB0 := CX.2.1
  have hl : lv_has ls 3 [(0, .ref o), (1, .int (zI cv)), (2, .int (zI pt))] := hl
  obtain ⟨H, eH⟩ : ∃ H, H = st.heap := ⟨_, rfl⟩
  obtain ⟨locs, eL⟩ : ∃ L : List Loc, L = [] := ⟨_, rfl⟩
  have hW : zW D (zT cI cJ cZ cP cS cM) L (zQ L sz) st (zMO cI cJ o S f) st.heap H locs := by rw [eH, eL]; exact hW
  suffices hgo : W pg l en ({ frames := 4, cells := 0, slots := 0, locals := 105 } : Room) st mi ag bl mt cd H locs 0 0 Q (F0 mi 0 ls []) by rw [eH, eL] at hgo; exact hgo
  clear eH eL
  have hpb := hI.s10
  refine lv_aload_n hX0 hB0 dX12_orderAt_0 rfl (lv_at hl 0 rfl) ?_
  refine lv_sipush (v := zI 141) hX0 hB0 dX12_orderAt_1 (by decide) ?_
  refine lv_iload_n hX0 hB0 dX12_orderAt_4 rfl (lv_at hl 1 rfl) ?_
  refine lv_iload_n hX0 hB0 dX12_orderAt_5 rfl (lv_at hl 2 rfl) ?_
  refine z_callv hW (va_runV (C := RX12) (As := [.int (zI 141), .int (zI cv), .int (zI pt)]) (rest := []) CX.fix (zk_laysLocal l o S 141 cv pt hI (by constructor <;> omega) (by constructor <;> omega) (by constructor <;> omega)) (cwV 3 CX.fix.2.2.2.2 gX12_orderAt_X12_laysLocal rfl rfl rfl (by decide +kernel) ⟨Nat.le_of_ble_eq_true rfl, Nat.le_of_ble_eq_true rfl⟩) (z_preV CX hW (r := (RX12, TX12, 37)) zMO_0 rfl) rfl rfl hl.1 rfl (lv_room (Nat.le_of_ble_eq_true rfl)) dX12_orderAt_6 ⟨Nat.zero_le _, Nat.zero_le _⟩) (fun gn H locs hok hW => ?_)
  obtain ⟨hg, hI6, hf6, hq6⟩ := hok
  obtain ⟨S6, e6⟩ : ∃ q, zm_laysLocal S 141 cv pt = q := ⟨_, rfl⟩
  rw [e6] at hg hI6 hf6
  skip
  try rw [e6] at hq6
  rw [hg] at hW
  clear hg
  refine lv_aload_n hX0 hB0 dX12_orderAt_9 rfl (lv_at hl 0 rfl) ?_
  refine lv_sipush (v := zI 141) hX0 hB0 dX12_orderAt_10 (by decide) ?_
  refine z_calli hW (va_runV (C := RX12) (As := [.int (zI 141)]) (rest := []) CX.fix (zk_orderOf l o S6 141 hI6 (by constructor <;> omega)) (cwV 1 CX.fix.2.2.2.2 gX12_orderAt_X12_orderOf rfl rfl rfl (by decide +kernel) ⟨Nat.le_of_ble_eq_true rfl, Nat.le_of_ble_eq_true rfl⟩) (z_preV CX hW (r := (RX12, TX12, 37)) zMO_0 rfl) rfl rfl hl.1 rfl (lv_room (Nat.le_of_ble_eq_true rfl)) dX12_orderAt_13 ⟨Nat.zero_le _, Nat.zero_le _⟩) (fun z13 gn H locs hok hW => ?_)
  obtain ⟨hz13, hg, hq13⟩ := hok
  rw [hg] at hW
  clear hg
  have e13 : zm_orderOf S6 141 = z13 := hz13.symm
  clear hz13
  have hE : zm_orderAt S cv pt = (z13, S6) := by unfold zm_orderAt; exact zlet_e e6 (zlet_e e13 rfl)
  have hFr : ∀ kk ii : Nat, ¬ (kk = 3 ∧ 3500 ≤ (ii : Int)) → S6 kk ii = S kk ii := fun kk ii hk => (hf6 kk ii (by omega))
  rw [← hQ]
  exact z_iret (z := z13) CX hW (by rw [hE]; exact ⟨rfl, rfl, hI6, hFr, (show 0 ≤ z13 ∧ z13 ≤ 5 from by omega)⟩) rfl dX12_orderAt_16
def zm_order (S : zS2) (cv : Int) (pt : Int) : Int × zS2 := zlet (zm_isCurve S cv) (fun z2 => (if z2 = 0 then (-1, S) else zlet (zm_isPoint S pt) (fun z10 => (if z10 = 0 then (-1, S) else zlet (zm_orderAt S cv pt) (fun q19 => (fun (z19 : Int) (S19 : zS2) => (z19, S19)) q19.1 q19.2)))))
set_option maxRecDepth 100000 in
set_option maxHeartbeats 4000000 in
theorem zk_order (l : Launch) {D : va_G} {cI cJ cZ cP cS cM : ClassId} {L : List Nat} {sz : Nat} {f : Nat → va_E} (o : Nat) (S : zS2) (cv : Int) (pt : Int) (hI : mI S) (hcv : -2147483648 ≤ cv ∧ cv ≤ 2147483647) (hpt : -2147483648 ≤ pt ∧ pt ≤ 2147483647) : zMi l yX12_order wsX12_order 5 127 D (zT cI cJ cZ cP cS cM) L sz (zMO cI cJ o S f) [.ref o, .int (zI cv), .int (zI pt)] (fun zv gv => zv = (zm_order S cv pt).1 ∧ gv = zMO cI cJ o (zm_order S cv pt).2 f ∧ mI (zm_order S cv pt).2 ∧ (∀ kk ii : Nat, ¬ (kk = 3 ∧ 3500 ≤ (ii : Int)) → (zm_order S cv pt).2 kk ii = S kk ii) ∧ -1 ≤ zv ∧ zv ≤ 5) := by
  refine zWalk.met (nL := 3) (ret := (some .int)) (cc := cX12_order) (by decide) rfl (Nat.le_of_ble_eq_true rfl) ?_
  intro pg en st mi ag bl mt cd ls CX hW hl
  have CX : zC pg st mi ag mt cd cX12_order 3 (some .int) RX12 wsX12_order := CX
  generalize hQ : MQ bl _ ag st 0 0 _ = Q
  have hX0 := CX.1
  have hB0 := CX.2.1
  have hl : lv_has ls 3 [(0, .ref o), (1, .int (zI cv)), (2, .int (zI pt))] := hl
  obtain ⟨H, eH⟩ : ∃ H, H = st.heap := ⟨_, rfl⟩
  obtain ⟨locs, eL⟩ : ∃ L : List Loc, L = [] := ⟨_, rfl⟩
  have hW : zW D (zT cI cJ cZ cP cS cM) L (zQ L sz) st (zMO cI cJ o S f) st.heap H locs := by rw [eH, eL]; exact hW
  suffices hgo : W pg l en ({ frames := 5, cells := 0, slots := 0, locals := 127 } : Room) st mi ag bl mt cd H locs 0 0 Q (F0 mi 0 ls []) by rw [eH, eL] at hgo; exact hgo
  clear eH eL
  have hpb := hI.s10
  refine lv_aload_n hX0 hB0 dX12_order_0 rfl (lv_at hl 0 rfl) ?_
  refine lv_iload_n hX0 hB0 dX12_order_1 rfl (lv_at hl 1 rfl) ?_
  refine z_calli hW (va_runV (C := RX12) (As := [.int (zI cv)]) (rest := []) CX.fix (zk_isCurve l o S cv hI (by constructor <;> omega)) (cwV 1 CX.fix.2.2.2.2 gX12_order_X12_isCurve rfl rfl rfl (by decide +kernel) ⟨Nat.le_of_ble_eq_true rfl, Nat.le_of_ble_eq_true rfl⟩) (z_preV CX hW (r := (RX12, TX12, 37)) zMO_0 rfl) rfl rfl hl.1 rfl (lv_room (Nat.le_of_ble_eq_true rfl)) dX12_order_2 ⟨Nat.zero_le _, Nat.zero_le _⟩) (fun z2 gn H locs hok hW => ?_)
  obtain ⟨hz2, hg, hq2⟩ := hok
  rw [hg] at hW
  clear hg
  have e2 : zm_isCurve S cv = z2 := hz2.symm
  clear hz2
  refine z_if_eq (tgt := 25) CX dX12_order_5 (by decide) (by constructor <;> omega) (fun c_5 => ?_) (fun c_5 => ?_)
  ·
    refine lv_iconst (v := zI (-1)) hX0 hB0 dX12_order_25 rfl ?_
    have hE : zm_order S cv pt = (-1, S) := by unfold zm_order; exact zlet_e e2 (zif_t c_5 rfl)
    have hFr : ∀ kk ii : Nat, ¬ (kk = 3 ∧ 3500 ≤ (ii : Int)) → S kk ii = S kk ii := fun kk ii hk => rfl
    rw [← hQ]
    exact z_iret (z := -1) CX hW (by rw [hE]; exact ⟨rfl, rfl, hI, hFr, (show -1 ≤ (-1 : Int) ∧ (-1 : Int) ≤ 5 from by omega)⟩) rfl dX12_order_26
  ·
    refine lv_aload_n hX0 hB0 dX12_order_8 rfl (lv_at hl 0 rfl) ?_
    refine lv_iload_n hX0 hB0 dX12_order_9 rfl (lv_at hl 2 rfl) ?_
    refine z_calli hW (va_runV (C := RX12) (As := [.int (zI pt)]) (rest := []) CX.fix (zk_isPoint l o S pt hI (by constructor <;> omega)) (cwV 1 CX.fix.2.2.2.2 gX12_order_X12_isPoint rfl rfl rfl (by decide +kernel) ⟨Nat.le_of_ble_eq_true rfl, Nat.le_of_ble_eq_true rfl⟩) (z_preV CX hW (r := (RX12, TX12, 37)) zMO_0 rfl) rfl rfl hl.1 rfl (lv_room (Nat.le_of_ble_eq_true rfl)) dX12_order_10 ⟨Nat.zero_le _, Nat.zero_le _⟩) (fun z10 gn H locs hok hW => ?_)
    obtain ⟨hz10, hg, hq10⟩ := hok
    rw [hg] at hW
    clear hg
    have e10 : zm_isPoint S pt = z10 := hz10.symm
    clear hz10
    refine z_if_eq (tgt := 25) CX dX12_order_13 (by decide) (by constructor <;> omega) (fun c_13 => ?_) (fun c_13 => ?_)
    ·
      refine lv_iconst (v := zI (-1)) hX0 hB0 dX12_order_25 rfl ?_
      have hE : zm_order S cv pt = (-1, S) := by unfold zm_order; exact zlet_e e2 (zif_f c_5 (zlet_e e10 (zif_t c_13 rfl)))
      have hFr : ∀ kk ii : Nat, ¬ (kk = 3 ∧ 3500 ≤ (ii : Int)) → S kk ii = S kk ii := fun kk ii hk => rfl
      rw [← hQ]
      exact z_iret (z := -1) CX hW (by rw [hE]; exact ⟨rfl, rfl, hI, hFr, (show -1 ≤ (-1 : Int) ∧ (-1 : Int) ≤ 5 from by omega)⟩) rfl dX12_order_26
    ·
      refine lv_aload_n hX0 hB0 dX12_order_16 rfl (lv_at hl 0 rfl) ?_
      refine lv_iload_n hX0 hB0 dX12_order_17 rfl (lv_at hl 1 rfl) ?_
      refine lv_iload_n hX0 hB0 dX12_order_18 rfl (lv_at hl 2 rfl) ?_
      refine z_calli hW (va_runV (C := RX12) (As := [.int (zI cv), .int (zI pt)]) (rest := []) CX.fix (zk_orderAt l o S cv pt hI (by constructor <;> omega) (by constructor <;> omega)) (cwV 2 CX.fix.2.2.2.2 gX12_order_X12_orderAt rfl rfl rfl (by decide +kernel) ⟨Nat.le_of_ble_eq_true rfl, Nat.le_of_ble_eq_true rfl⟩) (z_preV CX hW (r := (RX12, TX12, 37)) zMO_0 rfl) rfl rfl hl.1 rfl (lv_room (Nat.le_of_ble_eq_true rfl)) dX12_order_19 ⟨Nat.zero_le _, Nat.zero_le _⟩) (fun z19 gn H locs hok hW => ?_)
      obtain ⟨hz19, hg, hI19, hf19, hq19⟩ := hok
      obtain ⟨S19, hS19⟩ : ∃ q, q = (zm_orderAt S cv pt).2 := ⟨_, rfl⟩
      rw [← hS19] at hg hI19 hf19
      skip
      try rw [← hS19] at hq19
      rw [hg] at hW
      clear hg
      have e19 : zm_orderAt S cv pt = (z19, S19) := Prod.ext hz19.symm hS19.symm
      clear hz19 hS19
      refine lv_goto (tgt := 26) hX0 hB0 dX12_order_22 (by decide) ?_
      have hE : zm_order S cv pt = (z19, S19) := by unfold zm_order; exact zlet_e e2 (zif_f c_5 (zlet_e e10 (zif_f c_13 (zlet_e e19 rfl))))
      have hFr : ∀ kk ii : Nat, ¬ (kk = 3 ∧ 3500 ≤ (ii : Int)) → S19 kk ii = S kk ii := fun kk ii hk => (hf19 kk ii (by omega))
      rw [← hQ]
      exact z_iret (z := z19) CX hW (by rw [hE]; exact ⟨rfl, rfl, hI19, hFr, (show -1 ≤ z19 ∧ z19 ≤ 5 from by omega)⟩) rfl dX12_order_26
def zm_local (S : zS2) (cv : Int) (pt : Int) (i : Int) (j : Int) : Int × zS2 := zlet (zm_isCurve S cv) (fun z2 => (if z2 = 0 then (-1, S) else zlet (zm_isPoint S pt) (fun z10 => (if z10 = 0 then (-1, S) else zlet (zm_isTerm i j) (fun z19 => (if z19 = 0 then (-1, S) else zlet (zm_laysLocal S 141 cv pt) (fun S33 => zlet (zm_cell S33 141 i j) (fun z43 => (z43, S33)))))))))
set_option maxRecDepth 100000 in
set_option maxHeartbeats 4000000 in
theorem zk_local (l : Launch) {D : va_G} {cI cJ cZ cP cS cM : ClassId} {L : List Nat} {sz : Nat} {f : Nat → va_E} (o : Nat) (S : zS2) (cv : Int) (pt : Int) (i : Int) (j : Int) (hI : mI S) (hcv : -2147483648 ≤ cv ∧ cv ≤ 2147483647) (hpt : -2147483648 ≤ pt ∧ pt ≤ 2147483647) (hi : -2147483648 ≤ i ∧ i ≤ 2147483647) (hj : -2147483648 ≤ j ∧ j ≤ 2147483647) : zMi l yX12_local wsX12_local 4 105 D (zT cI cJ cZ cP cS cM) L sz (zMO cI cJ o S f) [.ref o, .int (zI cv), .int (zI pt), .int (zI i), .int (zI j)] (fun zv gv => zv = (zm_local S cv pt i j).1 ∧ gv = zMO cI cJ o (zm_local S cv pt i j).2 f ∧ mI (zm_local S cv pt i j).2 ∧ (∀ kk ii : Nat, ¬ (kk = 3 ∧ 3500 ≤ (ii : Int)) → (zm_local S cv pt i j).2 kk ii = S kk ii) ∧ -1 ≤ zv ∧ zv ≤ 30) := by
  refine zWalk.met (nL := 5) (ret := (some .int)) (cc := cX12_local) (by decide) rfl (Nat.le_of_ble_eq_true rfl) ?_
  intro pg en st mi ag bl mt cd ls CX hW hl
  have CX : zC pg st mi ag mt cd cX12_local 5 (some .int) RX12 wsX12_local := CX
  generalize hQ : MQ bl _ ag st 0 0 _ = Q
  have hX0 := CX.1
  have hB0 := CX.2.1
  have hl : lv_has ls 5 [(0, .ref o), (1, .int (zI cv)), (2, .int (zI pt)), (3, .int (zI i)), (4, .int (zI j))] := hl
  obtain ⟨H, eH⟩ : ∃ H, H = st.heap := ⟨_, rfl⟩
  obtain ⟨locs, eL⟩ : ∃ L : List Loc, L = [] := ⟨_, rfl⟩
  have hW : zW D (zT cI cJ cZ cP cS cM) L (zQ L sz) st (zMO cI cJ o S f) st.heap H locs := by rw [eH, eL]; exact hW
  suffices hgo : W pg l en ({ frames := 4, cells := 0, slots := 0, locals := 105 } : Room) st mi ag bl mt cd H locs 0 0 Q (F0 mi 0 ls []) by rw [eH, eL] at hgo; exact hgo
  clear eH eL
  have hpb := hI.s10
  refine lv_aload_n hX0 hB0 dX12_local_0 rfl (lv_at hl 0 rfl) ?_
  refine lv_iload_n hX0 hB0 dX12_local_1 rfl (lv_at hl 1 rfl) ?_
  refine z_calli hW (va_runV (C := RX12) (As := [.int (zI cv)]) (rest := []) CX.fix (zk_isCurve l o S cv hI (by constructor <;> omega)) (cwV 1 CX.fix.2.2.2.2 gX12_local_X12_isCurve rfl rfl rfl (by decide +kernel) ⟨Nat.le_of_ble_eq_true rfl, Nat.le_of_ble_eq_true rfl⟩) (z_preV CX hW (r := (RX12, TX12, 37)) zMO_0 rfl) rfl rfl hl.1 rfl (lv_room (Nat.le_of_ble_eq_true rfl)) dX12_local_2 ⟨Nat.zero_le _, Nat.zero_le _⟩) (fun z2 gn H locs hok hW => ?_)
  obtain ⟨hz2, hg, hq2⟩ := hok
  rw [hg] at hW
  clear hg
  have e2 : zm_isCurve S cv = z2 := hz2.symm
  clear hz2
  refine z_if_eq (tgt := 25) CX dX12_local_5 (by decide) (by constructor <;> omega) (fun c_5 => ?_) (fun c_5 => ?_)
  ·
    refine lv_iconst (v := zI (-1)) hX0 hB0 dX12_local_25 rfl ?_
    have hE : zm_local S cv pt i j = (-1, S) := by unfold zm_local; exact zlet_e e2 (zif_t c_5 rfl)
    have hFr : ∀ kk ii : Nat, ¬ (kk = 3 ∧ 3500 ≤ (ii : Int)) → S kk ii = S kk ii := fun kk ii hk => rfl
    rw [← hQ]
    exact z_iret (z := -1) CX hW (by rw [hE]; exact ⟨rfl, rfl, hI, hFr, (show -1 ≤ (-1 : Int) ∧ (-1 : Int) ≤ 30 from by omega)⟩) rfl dX12_local_26
  ·
    refine lv_aload_n hX0 hB0 dX12_local_8 rfl (lv_at hl 0 rfl) ?_
    refine lv_iload_n hX0 hB0 dX12_local_9 rfl (lv_at hl 2 rfl) ?_
    refine z_calli hW (va_runV (C := RX12) (As := [.int (zI pt)]) (rest := []) CX.fix (zk_isPoint l o S pt hI (by constructor <;> omega)) (cwV 1 CX.fix.2.2.2.2 gX12_local_X12_isPoint rfl rfl rfl (by decide +kernel) ⟨Nat.le_of_ble_eq_true rfl, Nat.le_of_ble_eq_true rfl⟩) (z_preV CX hW (r := (RX12, TX12, 37)) zMO_0 rfl) rfl rfl hl.1 rfl (lv_room (Nat.le_of_ble_eq_true rfl)) dX12_local_10 ⟨Nat.zero_le _, Nat.zero_le _⟩) (fun z10 gn H locs hok hW => ?_)
    obtain ⟨hz10, hg, hq10⟩ := hok
    rw [hg] at hW
    clear hg
    have e10 : zm_isPoint S pt = z10 := hz10.symm
    clear hz10
    refine z_if_eq (tgt := 25) CX dX12_local_13 (by decide) (by constructor <;> omega) (fun c_13 => ?_) (fun c_13 => ?_)
    ·
      refine lv_iconst (v := zI (-1)) hX0 hB0 dX12_local_25 rfl ?_
      have hE : zm_local S cv pt i j = (-1, S) := by unfold zm_local; exact zlet_e e2 (zif_f c_5 (zlet_e e10 (zif_t c_13 rfl)))
      have hFr : ∀ kk ii : Nat, ¬ (kk = 3 ∧ 3500 ≤ (ii : Int)) → S kk ii = S kk ii := fun kk ii hk => rfl
      rw [← hQ]
      exact z_iret (z := -1) CX hW (by rw [hE]; exact ⟨rfl, rfl, hI, hFr, (show -1 ≤ (-1 : Int) ∧ (-1 : Int) ≤ 30 from by omega)⟩) rfl dX12_local_26
    ·
      refine lv_iload_n hX0 hB0 dX12_local_16 rfl (lv_at hl 3 rfl) ?_
      refine lv_iload hX0 hB0 dX12_local_17 (lv_at hl 4 rfl) ?_
      refine z_calli hW (va_runS (As := [.int (zI i), .int (zI j)]) (rest := []) CX.fix (zk_isTerm l (f := zMO cI cJ o S f) i j (by constructor <;> omega) (by constructor <;> omega)) (va_cwS 2 CX.fix.2.2.2.2 gX12_local_X12_isTerm rfl rfl rfl (by decide +kernel) ⟨Nat.le_of_ble_eq_true rfl, Nat.le_of_ble_eq_true rfl⟩) (z_preS CX hW) rfl rfl hl.1 rfl (lv_room (Nat.le_of_ble_eq_true rfl)) dX12_local_19 ⟨Nat.zero_le _, Nat.zero_le _⟩) (fun z19 gn H locs hok hW => ?_)
      obtain ⟨hz19, hg, hq19⟩ := hok
      rw [hg] at hW
      clear hg
      have e19 : zm_isTerm i j = z19 := hz19.symm
      clear hz19
      refine z_if_ne (tgt := 27) CX dX12_local_22 (by decide) (by constructor <;> omega) (fun c_22 => ?_) (fun c_22 => ?_)
      ·
        refine lv_aload_n hX0 hB0 dX12_local_27 rfl (lv_at hl 0 rfl) ?_
        refine lv_sipush (v := zI 141) hX0 hB0 dX12_local_28 (by decide) ?_
        refine lv_iload_n hX0 hB0 dX12_local_31 rfl (lv_at hl 1 rfl) ?_
        refine lv_iload_n hX0 hB0 dX12_local_32 rfl (lv_at hl 2 rfl) ?_
        refine z_callv hW (va_runV (C := RX12) (As := [.int (zI 141), .int (zI cv), .int (zI pt)]) (rest := []) CX.fix (zk_laysLocal l o S 141 cv pt hI (by constructor <;> omega) (by constructor <;> omega) (by constructor <;> omega)) (cwV 3 CX.fix.2.2.2.2 gX12_local_X12_laysLocal rfl rfl rfl (by decide +kernel) ⟨Nat.le_of_ble_eq_true rfl, Nat.le_of_ble_eq_true rfl⟩) (z_preV CX hW (r := (RX12, TX12, 37)) zMO_0 rfl) rfl rfl hl.1 rfl (lv_room (Nat.le_of_ble_eq_true rfl)) dX12_local_33 ⟨Nat.zero_le _, Nat.zero_le _⟩) (fun gn H locs hok hW => ?_)
        obtain ⟨hg, hI33, hf33, hq33⟩ := hok
        obtain ⟨S33, e33⟩ : ∃ q, zm_laysLocal S 141 cv pt = q := ⟨_, rfl⟩
        rw [e33] at hg hI33 hf33
        skip
        try rw [e33] at hq33
        rw [hg] at hW
        clear hg
        refine lv_aload_n hX0 hB0 dX12_local_36 rfl (lv_at hl 0 rfl) ?_
        refine lv_sipush (v := zI 141) hX0 hB0 dX12_local_37 (by decide) ?_
        refine lv_iload_n hX0 hB0 dX12_local_40 rfl (lv_at hl 3 rfl) ?_
        refine lv_iload hX0 hB0 dX12_local_41 (lv_at hl 4 rfl) ?_
        refine z_calli hW (va_runV (C := RX12) (As := [.int (zI 141), .int (zI i), .int (zI j)]) (rest := []) CX.fix (zk_cell l o S33 141 i j hI33 (by constructor <;> omega) (by constructor <;> omega) (by constructor <;> omega)) (cwV 3 CX.fix.2.2.2.2 gX12_local_X12_cell rfl rfl rfl (by decide +kernel) ⟨Nat.le_of_ble_eq_true rfl, Nat.le_of_ble_eq_true rfl⟩) (z_preV CX hW (r := (RX12, TX12, 37)) zMO_0 rfl) rfl rfl hl.1 rfl (lv_room (Nat.le_of_ble_eq_true rfl)) dX12_local_43 ⟨Nat.zero_le _, Nat.zero_le _⟩) (fun z43 gn H locs hok hW => ?_)
        obtain ⟨hz43, hg, hq43⟩ := hok
        rw [hg] at hW
        clear hg
        have e43 : zm_cell S33 141 i j = z43 := hz43.symm
        clear hz43
        have hE : zm_local S cv pt i j = (z43, S33) := by unfold zm_local; exact zlet_e e2 (zif_f c_5 (zlet_e e10 (zif_f c_13 (zlet_e e19 (zif_f c_22 (zlet_e e33 (zlet_e e43 rfl)))))))
        have hFr : ∀ kk ii : Nat, ¬ (kk = 3 ∧ 3500 ≤ (ii : Int)) → S33 kk ii = S kk ii := fun kk ii hk => (hf33 kk ii (by omega))
        rw [← hQ]
        exact z_iret (z := z43) CX hW (by rw [hE]; exact ⟨rfl, rfl, hI33, hFr, (show -1 ≤ z43 ∧ z43 ≤ 30 from by omega)⟩) rfl dX12_local_46
      ·
        refine lv_iconst (v := zI (-1)) hX0 hB0 dX12_local_25 rfl ?_
        have hE : zm_local S cv pt i j = (-1, S) := by unfold zm_local; exact zlet_e e2 (zif_f c_5 (zlet_e e10 (zif_f c_13 (zlet_e e19 (zif_t c_22 rfl)))))
        have hFr : ∀ kk ii : Nat, ¬ (kk = 3 ∧ 3500 ≤ (ii : Int)) → S kk ii = S kk ii := fun kk ii hk => rfl
        rw [← hQ]
        exact z_iret (z := -1) CX hW (by rw [hE]; exact ⟨rfl, rfl, hI, hFr, (show -1 ≤ (-1 : Int) ∧ (-1 : Int) ≤ 30 from by omega)⟩) rfl dX12_local_26
def zm_singular_W20 (cv : Int) (k : Int) : Nat → Int → Int → zS2 → (Int × zS2) ⊕ (Int × Int × zS2)
  | 0, n20, p20, S20 => .inr (n20, p20, S20)
  | fu20 + 1, n20, p20, S20 => zlet (zm_points S20) (fun z23 => (if z23 ≤ p20 then .inr (n20, p20, S20) else zlet (zm_orderAt S20 cv p20) (fun q33 => (fun (z33 : Int) (S33 : zS2) => (if 2 ≤ z33 then (if n20 = k then .inl ((p20, S33)) else zm_singular_W20 cv k fu20 (n20 + 1) (p20 + 1) S33) else zm_singular_W20 cv k fu20 n20 (p20 + 1) S33)) q33.1 q33.2)))
def zm_singular (S : zS2) (cv : Int) (k : Int) : Int × zS2 := zlet (zm_isCurve S cv) (fun z2 => (if z2 = 0 then (-1, S) else (if -1 ≤ k then zsum (zm_singular_W20 cv k ((995 : Nat)) 0 0 S) (fun r20 => r20) (fun q20 => (fun (n20 : Int) (p20 : Int) (S20 : zS2) => (if k = -1 then (n20, S20) else (-1, S20))) q20.1 q20.2.1 q20.2.2) else (-1, S))))
set_option maxRecDepth 100000 in
set_option maxHeartbeats 4000000 in
theorem zk_singular (l : Launch) {D : va_G} {cI cJ cZ cP cS cM : ClassId} {L : List Nat} {sz : Nat} {f : Nat → va_E} (o : Nat) (S : zS2) (cv : Int) (k : Int) (hI : mI S) (hcv : -2147483648 ≤ cv ∧ cv ≤ 2147483647) (hk : -2147483648 ≤ k ∧ k ≤ 2147483647) : zMi l yX12_singular wsX12_singular 5 127 D (zT cI cJ cZ cP cS cM) L sz (zMO cI cJ o S f) [.ref o, .int (zI cv), .int (zI k)] (fun zv gv => zv = (zm_singular S cv k).1 ∧ gv = zMO cI cJ o (zm_singular S cv k).2 f ∧ mI (zm_singular S cv k).2 ∧ (∀ kk ii : Nat, ¬ (kk = 3 ∧ 3500 ≤ (ii : Int)) → (zm_singular S cv k).2 kk ii = S kk ii) ∧ True) := by
  refine zWalk.met (nL := 5) (ret := (some .int)) (cc := cX12_singular) (by decide) rfl (Nat.le_of_ble_eq_true rfl) ?_
  intro pg en st mi ag bl mt cd ls CX hW hl
  have CX : zC pg st mi ag mt cd cX12_singular 5 (some .int) RX12 wsX12_singular := CX
  generalize hQ : MQ bl _ ag st 0 0 _ = Q
  have hX0 := CX.1
  have hB0 := CX.2.1
  have hl : lv_has ls 5 [(0, .ref o), (1, .int (zI cv)), (2, .int (zI k))] := hl
  obtain ⟨H, eH⟩ : ∃ H, H = st.heap := ⟨_, rfl⟩
  obtain ⟨locs, eL⟩ : ∃ L : List Loc, L = [] := ⟨_, rfl⟩
  have hW : zW D (zT cI cJ cZ cP cS cM) L (zQ L sz) st (zMO cI cJ o S f) st.heap H locs := by rw [eH, eL]; exact hW
  suffices hgo : W pg l en ({ frames := 5, cells := 0, slots := 0, locals := 127 } : Room) st mi ag bl mt cd H locs 0 0 Q (F0 mi 0 ls []) by rw [eH, eL] at hgo; exact hgo
  clear eH eL
  have hpb := hI.s10
  refine lv_aload_n hX0 hB0 dX12_singular_0 rfl (lv_at hl 0 rfl) ?_
  refine lv_iload_n hX0 hB0 dX12_singular_1 rfl (lv_at hl 1 rfl) ?_
  refine z_calli hW (va_runV (C := RX12) (As := [.int (zI cv)]) (rest := []) CX.fix (zk_isCurve l o S cv hI (by constructor <;> omega)) (cwV 1 CX.fix.2.2.2.2 gX12_singular_X12_isCurve rfl rfl rfl (by decide +kernel) ⟨Nat.le_of_ble_eq_true rfl, Nat.le_of_ble_eq_true rfl⟩) (z_preV CX hW (r := (RX12, TX12, 37)) zMO_0 rfl) rfl rfl hl.1 rfl (lv_room (Nat.le_of_ble_eq_true rfl)) dX12_singular_2 ⟨Nat.zero_le _, Nat.zero_le _⟩) (fun z2 gn H locs hok hW => ?_)
  obtain ⟨hz2, hg, hq2⟩ := hok
  rw [hg] at hW
  clear hg
  have e2 : zm_isCurve S cv = z2 := hz2.symm
  clear hz2
  refine z_if_eq (tgt := 13) CX dX12_singular_5 (by decide) (by constructor <;> omega) (fun c_5 => ?_) (fun c_5 => ?_)
  ·
    refine lv_iconst (v := zI (-1)) hX0 hB0 dX12_singular_13 rfl ?_
    have hE : zm_singular S cv k = (-1, S) := by unfold zm_singular; exact zlet_e e2 (zif_t c_5 rfl)
    have hFr : ∀ kk ii : Nat, ¬ (kk = 3 ∧ 3500 ≤ (ii : Int)) → S kk ii = S kk ii := fun kk ii hk => rfl
    rw [← hQ]
    exact z_iret (z := -1) CX hW (by rw [hE]; exact ⟨rfl, rfl, hI, hFr, trivial⟩) rfl dX12_singular_14
  ·
    refine lv_iload_n hX0 hB0 dX12_singular_8 rfl (lv_at hl 2 rfl) ?_
    refine lv_iconst (v := zI (-1)) hX0 hB0 dX12_singular_9 rfl ?_
    refine z_icmp_ge (tgt := 15) CX dX12_singular_10 (by decide) (by constructor <;> omega) (by constructor <;> omega) (fun c_10 => ?_) (fun c_10 => ?_)
    ·
      refine lv_iconst (v := zI 0) hX0 hB0 dX12_singular_15 rfl ?_
      refine lv_istore_n (lv' := [(3, .int (zI 0)), (0, .ref o), (1, .int (zI cv)), (2, .int (zI k))]) hX0 hB0 dX12_singular_16 rfl hl (by decide) rfl (fun ls hl => ?_)
      refine lv_iconst (v := zI 0) hX0 hB0 dX12_singular_17 rfl ?_
      refine lv_istore (lv' := [(4, .int (zI 0)), (3, .int (zI 0)), (0, .ref o), (1, .int (zI cv)), (2, .int (zI k))]) hX0 hB0 dX12_singular_18 hl (by decide) rfl (fun ls hl => ?_)
      have hXt20 : ∀ (n20 : Int) (p20 : Int) (S20 : zS2), (zm_singular_W20 cv k ((995 : Nat)) 0 0 S = .inr (n20, p20, S20) ∧ mI S20 ∧ (∀ kk ii : Nat, ¬ (kk = 3 ∧ 3500 ≤ (ii : Int)) → S20 kk ii = S kk ii) ∧ 0 ≤ n20 ∧ n20 ≤ 1000 ∧ 0 ≤ p20 ∧ p20 ≤ 993 ∧ (n20 ≤ p20)) → ∀ (H : Heap) (locs : List Loc) (ls : Array Slot), zW D (zT cI cJ cZ cP cS cM) L (zQ L sz) st (zMO cI cJ o S20 f) st.heap H locs → lv_has ls 5 [(3, .int (zI n20)), (4, .int (zI p20)), (0, .ref o), (1, .int (zI cv)), (2, .int (zI k))] → W pg l en ({ frames := 5, cells := 0, slots := 0, locals := 127 } : Room) st mi ag bl mt cd H locs 0 0 Q (F0 mi 60 ls []) := by
        intro n20 p20 S20 hinv H locs ls hW hl
        obtain ⟨e20, hI20, hf20, han20, hbn20, hap20, hbp20, hv20⟩ := hinv
        have hp20 := hI20.s10
        refine lv_iload_n hX0 hB0 dX12_singular_60 rfl (lv_at hl 4 rfl) ?_
        refine lv_iconst (v := zI (-1)) hX0 hB0 dX12_singular_61 rfl ?_
        refine z_icmp_ne (tgt := 69) CX dX12_singular_62 (by decide) (by constructor <;> omega) (by constructor <;> omega) (fun c_62 => ?_) (fun c_62 => ?_)
        ·
          refine lv_iconst (v := zI (-1)) hX0 hB0 dX12_singular_69 rfl ?_
          have hE : zm_singular S cv k = (-1, S20) := by unfold zm_singular; exact zlet_e e2 (zif_f c_5 (zif_t c_10 (zsum_r e20 (zif_f c_62 rfl))))
          have hFr : ∀ kk ii : Nat, ¬ (kk = 3 ∧ 3500 ≤ (ii : Int)) → S20 kk ii = S kk ii := fun kk ii hk => (hf20 kk ii (by omega))
          rw [← hQ]
          exact z_iret (z := -1) CX hW (by rw [hE]; exact ⟨rfl, rfl, hI20, hFr, trivial⟩) rfl dX12_singular_70
        ·
          refine lv_iload_n hX0 hB0 dX12_singular_65 rfl (lv_at hl 0 rfl) ?_
          refine lv_goto (tgt := 70) hX0 hB0 dX12_singular_66 (by decide) ?_
          have hE : zm_singular S cv k = (n20, S20) := by unfold zm_singular; exact zlet_e e2 (zif_f c_5 (zif_t c_10 (zsum_r e20 (zif_t c_62 rfl))))
          have hFr : ∀ kk ii : Nat, ¬ (kk = 3 ∧ 3500 ≤ (ii : Int)) → S20 kk ii = S kk ii := fun kk ii hk => (hf20 kk ii (by omega))
          rw [← hQ]
          exact z_iret (z := n20) CX hW (by rw [hE]; exact ⟨rfl, rfl, hI20, hFr, trivial⟩) rfl dX12_singular_70
      have hL20 : ∀ (fu : Nat) (n20 : Int) (p20 : Int) (S20 : zS2), (zm_singular_W20 cv k ((995 : Nat)) 0 0 S = zm_singular_W20 cv k fu n20 p20 S20 ∧ mI S20 ∧ (∀ kk ii : Nat, ¬ (kk = 3 ∧ 3500 ≤ (ii : Int)) → S20 kk ii = S kk ii) ∧ 0 ≤ n20 ∧ n20 ≤ 1000 ∧ 0 ≤ p20 ∧ p20 ≤ 993 ∧ (n20 ≤ p20)) → (994 - p20).toNat < fu → ∀ (H : Heap) (locs : List Loc) (ls : Array Slot), zW D (zT cI cJ cZ cP cS cM) L (zQ L sz) st (zMO cI cJ o S20 f) st.heap H locs → lv_has ls 5 [(3, .int (zI n20)), (4, .int (zI p20)), (0, .ref o), (1, .int (zI cv)), (2, .int (zI k))] → W pg l en ({ frames := 5, cells := 0, slots := 0, locals := 127 } : Room) st mi ag bl mt cd H locs 0 0 Q (F0 mi 20 ls []) := by
        intro fu
        induction fu with
        | zero => intro n20 p20 S20 _ hfu; exact absurd hfu (Nat.not_lt_zero _)
        | succ fu ih20 =>
          intro n20 p20 S20 hinv hfu20 H locs ls hW hl
          obtain ⟨hz20, hI20, hf20, han20, hbn20, hap20, hbp20, hv20⟩ := hinv
          have hp20 := hI20.s10
          refine lv_iload hX0 hB0 dX12_singular_20 (lv_at hl 1 rfl) ?_
          refine lv_aload_n hX0 hB0 dX12_singular_22 rfl (lv_at hl 2 rfl) ?_
          refine z_calli hW (va_runV (C := RX12) (As := []) (rest := [.int (zI p20)]) CX.fix (zk_points l o S20  hI20 ) (cwV 0 CX.fix.2.2.2.2 gX12_singular_X12_points rfl rfl rfl (by decide +kernel) ⟨Nat.le_of_ble_eq_true rfl, Nat.le_of_ble_eq_true rfl⟩) (z_preV CX hW (r := (RX12, TX12, 37)) zMO_0 rfl) rfl rfl hl.1 rfl (lv_room (Nat.le_of_ble_eq_true rfl)) dX12_singular_23 ⟨Nat.zero_le _, Nat.zero_le _⟩) (fun z23 gn H locs hok hW => ?_)
          obtain ⟨hz23, hg, hq23⟩ := hok
          rw [hg] at hW
          clear hg
          have e23 : zm_points S20 = z23 := hz23.symm
          clear hz23
          refine z_icmp_ge (tgt := 60) CX dX12_singular_26 (by decide) (by constructor <;> omega) (by constructor <;> omega) (fun c_26 => ?_) (fun c_26 => ?_)
          ·
            exact hXt20 n20 p20 S20 ⟨hz20.trans (by rw [zm_singular_W20]; exact zlet_e e23 (zif_t c_26 rfl)), hI20, fun kk ii hk => (hf20 kk ii (by omega)), by omega, by omega, by omega, by omega, by omega⟩ H locs ls hW (lv_sub hl [0, 1, 2, 3, 4] rfl)
          ·
            have d_26 : ¬ z23 ≤ p20 := by omega
            refine lv_aload_n hX0 hB0 dX12_singular_29 rfl (lv_at hl 2 rfl) ?_
            refine lv_iload_n hX0 hB0 dX12_singular_30 rfl (lv_at hl 3 rfl) ?_
            refine lv_iload hX0 hB0 dX12_singular_31 (lv_at hl 1 rfl) ?_
            refine z_calli hW (va_runV (C := RX12) (As := [.int (zI cv), .int (zI p20)]) (rest := []) CX.fix (zk_orderAt l o S20 cv p20 hI20 (by constructor <;> omega) (by constructor <;> omega)) (cwV 2 CX.fix.2.2.2.2 gX12_singular_X12_orderAt rfl rfl rfl (by decide +kernel) ⟨Nat.le_of_ble_eq_true rfl, Nat.le_of_ble_eq_true rfl⟩) (z_preV CX hW (r := (RX12, TX12, 37)) zMO_0 rfl) rfl rfl hl.1 rfl (lv_room (Nat.le_of_ble_eq_true rfl)) dX12_singular_33 ⟨Nat.zero_le _, Nat.zero_le _⟩) (fun z33 gn H locs hok hW => ?_)
            obtain ⟨hz33, hg, hI33, hf33, hq33⟩ := hok
            obtain ⟨S33, hS33⟩ : ∃ q, q = (zm_orderAt S20 cv p20).2 := ⟨_, rfl⟩
            rw [← hS33] at hg hI33 hf33
            skip
            try rw [← hS33] at hq33
            rw [hg] at hW
            clear hg
            have e33 : zm_orderAt S20 cv p20 = (z33, S33) := Prod.ext hz33.symm hS33.symm
            clear hz33 hS33
            refine lv_iconst (v := zI 2) hX0 hB0 dX12_singular_36 rfl ?_
            refine z_icmp_ge (tgt := 43) CX dX12_singular_37 (by decide) (by constructor <;> omega) (by constructor <;> omega) (fun c_37 => ?_) (fun c_37 => ?_)
            ·
              refine lv_iload_n hX0 hB0 dX12_singular_43 rfl (lv_at hl 0 rfl) ?_
              refine lv_iload_n hX0 hB0 dX12_singular_44 rfl (lv_at hl 4 rfl) ?_
              refine z_icmp_ne (tgt := 51) CX dX12_singular_45 (by decide) (by constructor <;> omega) (by constructor <;> omega) (fun c_45 => ?_) (fun c_45 => ?_)
              ·
                refine lv_iinc (v := zI (n20 + 1)) (lv' := [(3, .int (zI (n20 + 1))), (4, .int (zI p20)), (0, .ref o), (1, .int (zI cv)), (2, .int (zI k))]) hX0 hB0 dX12_singular_51 hl (k := 0) rfl (zI_add _ _) (by decide) rfl (fun ls hl => ?_)
                refine lv_iinc (v := zI (p20 + 1)) (lv' := [(4, .int (zI (p20 + 1))), (3, .int (zI (n20 + 1))), (0, .ref o), (1, .int (zI cv)), (2, .int (zI k))]) hX0 hB0 dX12_singular_54 hl (k := 1) rfl (zI_add _ _) (by decide) rfl (fun ls hl => ?_)
                refine lv_goto (tgt := 20) hX0 hB0 dX12_singular_57 (by decide) ?_
                exact ih20 (n20 + 1) (p20 + 1) S33 ⟨hz20.trans (by rw [zm_singular_W20]; exact zlet_e e23 (zif_f d_26 (zlet_e e33 (zif_t c_37 (zif_f c_45 rfl))))), hI33, fun kk ii hk => ((hf33 kk ii (by omega))).trans (hf20 kk ii (by omega)), by omega, by omega, by omega, by omega, by omega⟩ (by omega) H locs ls hW (lv_sub hl [1, 0, 2, 3, 4] rfl)
              ·
                refine lv_iload hX0 hB0 dX12_singular_48 (lv_at hl 1 rfl) ?_
                have hE : zm_singular S cv k = (p20, S33) := by unfold zm_singular; exact zlet_e e2 (zif_f c_5 (zif_t c_10 (zsum_l (hz20.trans (by rw [zm_singular_W20]; exact zlet_e e23 (zif_f d_26 (zlet_e e33 (zif_t c_37 (zif_t c_45 rfl)))))) rfl)))
                have hFr : ∀ kk ii : Nat, ¬ (kk = 3 ∧ 3500 ≤ (ii : Int)) → S33 kk ii = S kk ii := fun kk ii hk => ((hf33 kk ii (by omega))).trans (hf20 kk ii (by omega))
                rw [← hQ]
                exact z_iret (z := p20) CX hW (by rw [hE]; exact ⟨rfl, rfl, hI33, hFr, trivial⟩) rfl dX12_singular_50
            ·
              have d_37 : ¬ 2 ≤ z33 := by omega
              refine lv_goto (tgt := 54) hX0 hB0 dX12_singular_40 (by decide) ?_
              refine lv_iinc (v := zI (p20 + 1)) (lv' := [(4, .int (zI (p20 + 1))), (3, .int (zI n20)), (0, .ref o), (1, .int (zI cv)), (2, .int (zI k))]) hX0 hB0 dX12_singular_54 hl (k := 1) rfl (zI_add _ _) (by decide) rfl (fun ls hl => ?_)
              refine lv_goto (tgt := 20) hX0 hB0 dX12_singular_57 (by decide) ?_
              exact ih20 n20 (p20 + 1) S33 ⟨hz20.trans (by rw [zm_singular_W20]; exact zlet_e e23 (zif_f d_26 (zlet_e e33 (zif_f d_37 rfl)))), hI33, fun kk ii hk => ((hf33 kk ii (by omega))).trans (hf20 kk ii (by omega)), by omega, by omega, by omega, by omega, by omega⟩ (by omega) H locs ls hW (lv_sub hl [1, 0, 2, 3, 4] rfl)
      exact hL20 _ 0 0 S ⟨rfl, hI, fun kk ii hk => rfl, by omega, by omega, by omega, by omega, by omega⟩ (by omega) H locs ls hW (lv_sub hl [1, 0, 2, 3, 4] rfl)
    ·
      have d_10 : ¬ -1 ≤ k := by omega
      refine lv_iconst (v := zI (-1)) hX0 hB0 dX12_singular_13 rfl ?_
      have hE : zm_singular S cv k = (-1, S) := by unfold zm_singular; exact zlet_e e2 (zif_f c_5 (zif_f d_10 rfl))
      have hFr : ∀ kk ii : Nat, ¬ (kk = 3 ∧ 3500 ≤ (ii : Int)) → S kk ii = S kk ii := fun kk ii hk => rfl
      rw [← hQ]
      exact z_iret (z := -1) CX hW (by rw [hE]; exact ⟨rfl, rfl, hI, hFr, trivial⟩) rfl dX12_singular_14
def zm_atT_L5 (S : zS2) (w : Int) : Int → Int → Int := fun i5 s5 => (fun (v5 : Int) => (Int.tmod ((v5 * w) + (S 9 i5.toNat)) (S 0 10))) s5
def zm_atT (S : zS2) (top : Int) (w : Int) : Int := zlet (zforD (zm_atT_L5 S w) top 0 (top - (0 - 1)).toNat) (fun v5 => zlet (zm_modulo S v5) (fun z38 => z38))
set_option maxRecDepth 100000 in
set_option maxHeartbeats 4000000 in
theorem zk_atT (l : Launch) {D : va_G} {cI cJ cZ cP cS cM : ClassId} {L : List Nat} {sz : Nat} {f : Nat → va_E} (o : Nat) (S : zS2) (top : Int) (w : Int) (hI : mI S) (htop : 0 ≤ top ∧ top ≤ 5) (hw : 0 ≤ w ∧ w ≤ 31) : zMi l yX12_atT wsX12_atT 1 24 D (zT cI cJ cZ cP cS cM) L sz (zMO cI cJ o S f) [.ref o, .int (zI top), .int (zI w)] (fun zv gv => zv = zm_atT S top w ∧ gv = zMO cI cJ o S f ∧ 0 ≤ zv ∧ zv < S 0 10) := by
  refine zWalk.met (nL := 6) (ret := (some .int)) (cc := cX12_atT) (by decide) rfl (Nat.le_of_ble_eq_true rfl) ?_
  intro pg en st mi ag bl mt cd ls CX hW hl
  have CX : zC pg st mi ag mt cd cX12_atT 6 (some .int) RX12 wsX12_atT := CX
  generalize hQ : MQ bl _ ag st 0 0 _ = Q
  have hX0 := CX.1
  have hB0 := CX.2.1
  have hl : lv_has ls 6 [(0, .ref o), (1, .int (zI top)), (2, .int (zI w))] := hl
  obtain ⟨H, eH⟩ : ∃ H, H = st.heap := ⟨_, rfl⟩
  obtain ⟨locs, eL⟩ : ∃ L : List Loc, L = [] := ⟨_, rfl⟩
  have hW : zW D (zT cI cJ cZ cP cS cM) L (zQ L sz) st (zMO cI cJ o S f) st.heap H locs := by rw [eH, eL]; exact hW
  suffices hgo : W pg l en ({ frames := 1, cells := 0, slots := 0, locals := 24 } : Room) st mi ag bl mt cd H locs 0 0 Q (F0 mi 0 ls []) by rw [eH, eL] at hgo; exact hgo
  clear eH eL
  have hpb := hI.s10
  refine lv_lconst (v := zL 0) hX0 hB0 dX12_atT_0 rfl ?_
  refine lv_lstore_n (lv' := [(3, .long (zL 0)), (0, .ref o), (1, .int (zI top)), (2, .int (zI w))]) hX0 hB0 dX12_atT_1 rfl hl (by decide) rfl (fun ls hl => ?_)
  refine lv_iload_n hX0 hB0 dX12_atT_2 rfl (lv_at hl 2 rfl) ?_
  refine lv_istore (lv' := [(5, .int (zI top)), (3, .long (zL 0)), (0, .ref o), (1, .int (zI top)), (2, .int (zI w))]) hX0 hB0 dX12_atT_3 hl (by decide) rfl (fun ls hl => ?_)
  have hL5 : ∀ (fu : Nat) (i5 : Int) (v5 : Int), ((0 - 1 ≤ i5 ∧ i5 ≤ top) ∧ zforD (zm_atT_L5 S w) top 0 (top - i5).toNat = v5 ∧ -30 ≤ v5 ∧ v5 ≤ 30) → (i5 - (0 - 1)).toNat < fu → ∀ (H : Heap) (locs : List Loc) (ls : Array Slot), zW D (zT cI cJ cZ cP cS cM) L (zQ L sz) st (zMO cI cJ o S f) st.heap H locs → lv_has ls 6 [(5, .int (zI i5)), (3, .long (zL v5)), (0, .ref o), (1, .int (zI top)), (2, .int (zI w))] → W pg l en ({ frames := 1, cells := 0, slots := 0, locals := 24 } : Room) st mi ag bl mt cd H locs 0 0 Q (F0 mi 5 ls []) := by
    intro fu
    induction fu with
    | zero => intro i5 v5 _ hfu; exact absurd hfu (Nat.not_lt_zero _)
    | succ fu ih5 =>
      intro i5 v5 hinv hfu5 H locs ls hW hl
      obtain ⟨⟨hlo5, hhi5⟩, hz5, hav5, hbv5⟩ := hinv
      refine lv_iload hX0 hB0 dX12_atT_5 (lv_at hl 0 rfl) ?_
      refine z_if_lt (tgt := 36) CX dX12_atT_7 (by decide) (by constructor <;> omega) (fun c_7 => ?_) (fun c_7 => ?_)
      ·
        have e5 : zforD (zm_atT_L5 S w) top 0 (top - (0 - 1)).toNat = v5 := by rw [show (top - (0 - 1)).toNat = (top - i5).toNat by omega]; exact hz5
        refine lv_aload_n hX0 hB0 dX12_atT_36 rfl (lv_at hl 2 rfl) ?_
        refine lv_lload_n hX0 hB0 dX12_atT_37 rfl (lv_at hl 1 rfl) ?_
        refine z_calli hW (va_runV (C := RX12) (As := [.long (zL v5)]) (rest := []) CX.fix (zk_modulo l o S v5 hI (by constructor <;> omega)) (cwV 1 CX.fix.2.2.2.2 gX12_atT_X12_modulo rfl rfl rfl (by decide +kernel) ⟨Nat.le_of_ble_eq_true rfl, Nat.le_of_ble_eq_true rfl⟩) (z_preV CX hW (r := (RX12, TX12, 37)) zMO_0 rfl) rfl rfl hl.1 rfl (lv_room (Nat.le_of_ble_eq_true rfl)) dX12_atT_38 ⟨Nat.zero_le _, Nat.zero_le _⟩) (fun z38 gn H locs hok hW => ?_)
        obtain ⟨hz38, hg, hq38⟩ := hok
        rw [hg] at hW
        clear hg
        have e38 : zm_modulo S v5 = z38 := hz38.symm
        clear hz38
        have hE : zm_atT S top w = z38 := by unfold zm_atT; exact zlet_e e5 (zlet_e e38 rfl)
        rw [← hQ]
        exact z_iret (z := z38) CX hW (by rw [hE]; exact ⟨rfl, rfl, (show 0 ≤ z38 ∧ z38 < S 0 10 from by omega)⟩) rfl dX12_atT_41
      ·
        refine lv_lload_n hX0 hB0 dX12_atT_10 rfl (lv_at hl 1 rfl) ?_
        refine lv_iload_n hX0 hB0 dX12_atT_11 rfl (lv_at hl 4 rfl) ?_
        refine z_i2l CX dX12_atT_12 (by constructor <;> omega) ?_
        refine z_lmul (z := v5 * w) CX dX12_atT_13 rfl ?_
        have hm13 := zbox_mul (a := v5) (b := w) (A := 30) (B := 31) (by constructor <;> omega) (by constructor <;> omega) (C := 930) (by decide)
        refine lv_aload_n hX0 hB0 dX12_atT_14 rfl (lv_at hl 2 rfl) ?_
        refine z_get (Cn := RX12) (T := TX12) (N := 37) CX hW (v := .ref (o + 9)) zMO_0 rfl (fun w h => List.mem_cons_of_mem _ (List.mem_append_right _ h)) 20 (by decide) (List.mem_of_getElem? (i := 1) rfl) rfl rfl dX12_atT_15 ?_
        refine lv_iload hX0 hB0 dX12_atT_18 (lv_at hl 0 rfl) ?_
        refine z_iald (z := S 9 i5.toNat) CX hW zMO_9 0 rfl (by refine ⟨?_, ?_, ?_⟩ <;> omega) rfl dX12_atT_20 ?_
        have hr20 := hI.r9 i5.toNat
        refine z_i2l CX dX12_atT_21 (by constructor <;> omega) ?_
        refine z_ladd (z := (v5 * w) + (S 9 i5.toNat)) CX dX12_atT_22 rfl ?_
        refine lv_aload_n hX0 hB0 dX12_atT_23 rfl (lv_at hl 2 rfl) ?_
        refine z_get (Cn := RX12) (T := TX12) (N := 37) CX hW (v := .int (zI (S 0 10))) zMO_0 rfl (fun w h => List.mem_cons_of_mem _ (List.mem_append_right _ h)) 10 (by decide) (List.mem_of_getElem? (i := 2) rfl) rfl rfl dX12_atT_24 ?_
        have hr24 := hI.s10
        refine z_i2l CX dX12_atT_27 (by constructor <;> omega) ?_
        refine z_lrem (z := Int.tmod ((v5 * w) + (S 9 i5.toNat)) (S 0 10)) CX dX12_atT_28 (by constructor <;> omega) (by constructor <;> omega) rfl ?_
        have ht28 := ztm (n := (v5 * w) + (S 9 i5.toNat)) (p := S 0 10) (by omega)
        refine lv_lstore_n (lv' := [(3, .long (zL (Int.tmod ((v5 * w) + (S 9 i5.toNat)) (S 0 10)))), (5, .int (zI i5)), (0, .ref o), (1, .int (zI top)), (2, .int (zI w))]) hX0 hB0 dX12_atT_29 rfl hl (by decide) rfl (fun ls hl => ?_)
        refine lv_iinc (v := zI (i5 + (-1))) (lv' := [(5, .int (zI (i5 + (-1)))), (3, .long (zL (Int.tmod ((v5 * w) + (S 9 i5.toNat)) (S 0 10)))), (0, .ref o), (1, .int (zI top)), (2, .int (zI w))]) hX0 hB0 dX12_atT_30 hl (k := 1) rfl (zI_add _ _) (by decide) rfl (fun ls hl => ?_)
        refine lv_goto (tgt := 5) hX0 hB0 dX12_atT_33 (by decide) ?_
        exact ih5 (i5 + (-1)) (Int.tmod ((v5 * w) + (S 9 i5.toNat)) (S 0 10)) ⟨⟨by omega, by omega⟩, (zforD_t _ _ _ (by omega)).trans ((congrArg (zm_atT_L5 S w i5) hz5).trans (by unfold zm_atT_L5; exact rfl)), by omega, by omega⟩ (by omega) H locs ls hW (lv_sub hl [0, 1, 2, 3, 4] rfl)
  exact hL5 _ top 0 ⟨⟨by omega, by omega⟩, zforD_0 _ _ _ (by omega), by omega, by omega⟩ (Nat.lt_succ_self _) H locs ls hW (lv_sub hl [0, 1, 2, 3, 4] rfl)
def zm_divides_L5 (w : Int) : Int → (Int × zS2) → (Int × zS2) := fun i5 s5 => (fun (c5 : Int) (S5 : zS2) => zlet (zm_modulo S5 (Int.tmod ((S5 9 i5.toNat) + (c5 * w)) (S5 0 10))) (fun z41 => zlet (za S5 9 i5.toNat z41) (fun S44 => (Int.tmod ((S5 9 i5.toNat) + (c5 * w)) (S5 0 10), S44)))) s5.1 s5.2
def zm_divides_L57  : Int → zS2 → zS2 := fun i57 s57 => (fun (S57 : zS2) => zlet (za S57 9 i57.toNat (S57 9 ((i57 + 1).toNat))) (fun S78 => S78)) s57
def zm_divides (S : zS2) (top : Int) (w : Int) : zS2 := zlet (zforD (zm_divides_L5 w) top (0, S) (top - (1 - 1)).toNat) (fun q5 => (fun (c5 : Int) (S5 : zS2) => zlet (zfor (zm_divides_L57) 0 S5 ((top - 1) + 1 - 0).toNat) (fun S57 => zlet (za S57 9 top.toNat 0) (fun S91 => S91))) q5.1 q5.2)
set_option maxRecDepth 100000 in
set_option maxHeartbeats 4000000 in
theorem zk_divides (l : Launch) {D : va_G} {cI cJ cZ cP cS cM : ClassId} {L : List Nat} {sz : Nat} {f : Nat → va_E} (o : Nat) (S : zS2) (top : Int) (w : Int) (hI : mI S) (htop : 0 ≤ top ∧ top ≤ 5) (hw : 0 ≤ w ∧ w ≤ 31) : zMv l yX12_divides wsX12_divides 1 24 D (zT cI cJ cZ cP cS cM) L sz (zMO cI cJ o S f) [.ref o, .int (zI top), .int (zI w)] (fun gv => gv = zMO cI cJ o (zm_divides S top w) f ∧ mI (zm_divides S top w) ∧ (∀ kk ii : Nat, ¬ kk = 9 → (zm_divides S top w) kk ii = S kk ii) ∧ True) := by
  refine zWalk.met (nL := 8) (ret := none) (cc := cX12_divides) (by decide) rfl (Nat.le_of_ble_eq_true rfl) ?_
  intro pg en st mi ag bl mt cd ls CX hW hl
  have CX : zC pg st mi ag mt cd cX12_divides 8 none RX12 wsX12_divides := CX
  generalize hQ : MQ bl _ ag st 0 0 _ = Q
  have hX0 := CX.1
  have hB0 := CX.2.1
  have hl : lv_has ls 8 [(0, .ref o), (1, .int (zI top)), (2, .int (zI w))] := hl
  obtain ⟨H, eH⟩ : ∃ H, H = st.heap := ⟨_, rfl⟩
  obtain ⟨locs, eL⟩ : ∃ L : List Loc, L = [] := ⟨_, rfl⟩
  have hW : zW D (zT cI cJ cZ cP cS cM) L (zQ L sz) st (zMO cI cJ o S f) st.heap H locs := by rw [eH, eL]; exact hW
  suffices hgo : W pg l en ({ frames := 1, cells := 0, slots := 0, locals := 24 } : Room) st mi ag bl mt cd H locs 0 0 Q (F0 mi 0 ls []) by rw [eH, eL] at hgo; exact hgo
  clear eH eL
  have hpb := hI.s10
  refine lv_lconst (v := zL 0) hX0 hB0 dX12_divides_0 rfl ?_
  refine lv_lstore_n (lv' := [(3, .long (zL 0)), (0, .ref o), (1, .int (zI top)), (2, .int (zI w))]) hX0 hB0 dX12_divides_1 rfl hl (by decide) rfl (fun ls hl => ?_)
  refine lv_iload_n hX0 hB0 dX12_divides_2 rfl (lv_at hl 2 rfl) ?_
  refine lv_istore (lv' := [(5, .int (zI top)), (3, .long (zL 0)), (0, .ref o), (1, .int (zI top)), (2, .int (zI w))]) hX0 hB0 dX12_divides_3 hl (by decide) rfl (fun ls hl => ?_)
  have hL5 : ∀ (fu : Nat) (i5 : Int) (c5 : Int) (S5 : zS2), ((1 - 1 ≤ i5 ∧ i5 ≤ top) ∧ zforD (zm_divides_L5 w) top (0, S) (top - i5).toNat = (c5, S5) ∧ mI S5 ∧ (∀ kk ii : Nat, ¬ kk = 9 → S5 kk ii = S kk ii) ∧ -30 ≤ c5 ∧ c5 ≤ 30) → (i5 - (1 - 1)).toNat < fu → ∀ (H : Heap) (locs : List Loc) (ls : Array Slot), zW D (zT cI cJ cZ cP cS cM) L (zQ L sz) st (zMO cI cJ o S5 f) st.heap H locs → lv_has ls 8 [(5, .int (zI i5)), (3, .long (zL c5)), (0, .ref o), (1, .int (zI top)), (2, .int (zI w))] → W pg l en ({ frames := 1, cells := 0, slots := 0, locals := 24 } : Room) st mi ag bl mt cd H locs 0 0 Q (F0 mi 5 ls []) := by
    intro fu
    induction fu with
    | zero => intro i5 c5 S5 _ hfu; exact absurd hfu (Nat.not_lt_zero _)
    | succ fu ih5 =>
      intro i5 c5 S5 hinv hfu5 H locs ls hW hl
      obtain ⟨⟨hlo5, hhi5⟩, hz5, hI5, hf5, hac5, hbc5⟩ := hinv
      have hp5 := hI5.s10
      refine lv_iload hX0 hB0 dX12_divides_5 (lv_at hl 0 rfl) ?_
      refine lv_iconst (v := zI 1) hX0 hB0 dX12_divides_7 rfl ?_
      refine z_icmp_lt (tgt := 54) CX dX12_divides_8 (by decide) (by constructor <;> omega) (by constructor <;> omega) (fun c_8 => ?_) (fun c_8 => ?_)
      ·
        have e5 : zforD (zm_divides_L5 w) top (0, S) (top - (1 - 1)).toNat = (c5, S5) := by rw [show (top - (1 - 1)).toNat = (top - i5).toNat by omega]; exact hz5
        refine lv_iconst (v := zI 0) hX0 hB0 dX12_divides_54 rfl ?_
        refine lv_istore (lv' := [(5, .int (zI 0)), (3, .long (zL c5)), (0, .ref o), (1, .int (zI top)), (2, .int (zI w))]) hX0 hB0 dX12_divides_55 hl (by decide) rfl (fun ls hl => ?_)
        have hL57 : ∀ (fu : Nat) (i57 : Int) (S57 : zS2), ((0 ≤ i57 ∧ i57 ≤ top - 1 + 1) ∧ zfor (zm_divides_L57) 0 S5 (i57 - 0).toNat = S57 ∧ mI S57 ∧ (∀ kk ii : Nat, ¬ kk = 9 → S57 kk ii = S5 kk ii)) → ((top - 1) + 1 - i57).toNat < fu → ∀ (H : Heap) (locs : List Loc) (ls : Array Slot), zW D (zT cI cJ cZ cP cS cM) L (zQ L sz) st (zMO cI cJ o S57 f) st.heap H locs → lv_has ls 8 [(5, .int (zI i57)), (0, .ref o), (1, .int (zI top)), (2, .int (zI w))] → W pg l en ({ frames := 1, cells := 0, slots := 0, locals := 24 } : Room) st mi ag bl mt cd H locs 0 0 Q (F0 mi 57 ls []) := by
          intro fu
          induction fu with
          | zero => intro i57 S57 _ hfu; exact absurd hfu (Nat.not_lt_zero _)
          | succ fu ih57 =>
            intro i57 S57 hinv hfu57 H locs ls hW hl
            obtain ⟨⟨hlo57, hhi57⟩, hz57, hI57, hf57⟩ := hinv
            have hp57 := hI57.s10
            refine lv_iload hX0 hB0 dX12_divides_57 (lv_at hl 0 rfl) ?_
            refine lv_iload_n hX0 hB0 dX12_divides_59 rfl (lv_at hl 2 rfl) ?_
            refine z_icmp_ge (tgt := 85) CX dX12_divides_60 (by decide) (by constructor <;> omega) (by constructor <;> omega) (fun c_60 => ?_) (fun c_60 => ?_)
            ·
              have e57 : zfor (zm_divides_L57) 0 S5 ((top - 1) + 1 - 0).toNat = S57 := by rw [show ((top - 1) + 1 - 0).toNat = (i57 - 0).toNat by omega]; exact hz57
              refine lv_aload_n hX0 hB0 dX12_divides_85 rfl (lv_at hl 1 rfl) ?_
              refine z_get (Cn := RX12) (T := TX12) (N := 37) CX hW (v := .ref (o + 9)) zMO_0 rfl (fun w h => List.mem_cons_of_mem _ (List.mem_append_right _ h)) 20 (by decide) (List.mem_of_getElem? (i := 1) rfl) rfl rfl dX12_divides_86 ?_
              refine lv_iload_n hX0 hB0 dX12_divides_89 rfl (lv_at hl 2 rfl) ?_
              refine lv_iconst (v := zI 0) hX0 hB0 dX12_divides_90 rfl ?_
              obtain ⟨S91, e91⟩ : ∃ q, za S57 9 top.toNat 0 = q := ⟨_, rfl⟩
              refine z_iast CX hW zMO_9 0 rfl (by refine ⟨?_, ?_, ?_⟩ <;> omega) (g := zMO cI cJ o S91 f) (zMO_w9.trans (by rw [← e91]; rfl)) dX12_divides_91 (fun H locs hW => ?_)
              have hI91 : mI S91 := e91 ▸ hI57.w9 (by constructor <;> omega)
              have hE : zm_divides S top w = S91 := by unfold zm_divides; exact zlet_e e5 (zlet_e e57 (zlet_e e91 rfl))
              have hFr : ∀ kk ii : Nat, ¬ kk = 9 → S91 kk ii = S kk ii := fun kk ii hk => (((show S91 kk ii = S57 kk ii from by rw [← e91]; exact za_ne (by omega))).trans (hf57 kk ii (by omega))).trans (hf5 kk ii (by omega))
              rw [← hQ]
              exact z_vret CX hW (by rw [hE]; exact ⟨rfl, hI91, hFr, trivial⟩) dX12_divides_92
            ·
              refine lv_aload_n hX0 hB0 dX12_divides_63 rfl (lv_at hl 1 rfl) ?_
              refine z_get (Cn := RX12) (T := TX12) (N := 37) CX hW (v := .ref (o + 9)) zMO_0 rfl (fun w h => List.mem_cons_of_mem _ (List.mem_append_right _ h)) 20 (by decide) (List.mem_of_getElem? (i := 1) rfl) rfl rfl dX12_divides_64 ?_
              refine lv_iload hX0 hB0 dX12_divides_67 (lv_at hl 0 rfl) ?_
              refine lv_aload_n hX0 hB0 dX12_divides_69 rfl (lv_at hl 1 rfl) ?_
              refine z_get (Cn := RX12) (T := TX12) (N := 37) CX hW (v := .ref (o + 9)) zMO_0 rfl (fun w h => List.mem_cons_of_mem _ (List.mem_append_right _ h)) 20 (by decide) (List.mem_of_getElem? (i := 1) rfl) rfl rfl dX12_divides_70 ?_
              refine lv_iload hX0 hB0 dX12_divides_73 (lv_at hl 0 rfl) ?_
              refine lv_iconst (v := zI 1) hX0 hB0 dX12_divides_75 rfl ?_
              refine z_iadd (z := i57 + 1) CX dX12_divides_76 rfl ?_
              refine z_iald (z := S57 9 ((i57 + 1).toNat)) CX hW zMO_9 0 rfl (by refine ⟨?_, ?_, ?_⟩ <;> omega) rfl dX12_divides_77 ?_
              have hr77 := hI57.r9 ((i57 + 1).toNat)
              obtain ⟨S78, e78⟩ : ∃ q, za S57 9 i57.toNat (S57 9 ((i57 + 1).toNat)) = q := ⟨_, rfl⟩
              refine z_iast CX hW zMO_9 0 rfl (by refine ⟨?_, ?_, ?_⟩ <;> omega) (g := zMO cI cJ o S78 f) (zMO_w9.trans (by rw [← e78]; rfl)) dX12_divides_78 (fun H locs hW => ?_)
              have hI78 : mI S78 := e78 ▸ hI57.w9 (by constructor <;> omega)
              refine lv_iinc (v := zI (i57 + 1)) (lv' := [(5, .int (zI (i57 + 1))), (0, .ref o), (1, .int (zI top)), (2, .int (zI w))]) hX0 hB0 dX12_divides_79 hl (k := 0) rfl (zI_add _ _) (by decide) rfl (fun ls hl => ?_)
              refine lv_goto (tgt := 57) hX0 hB0 dX12_divides_82 (by decide) ?_
              exact ih57 (i57 + 1) S78 ⟨⟨by omega, by omega⟩, (zfor_s _ _ _ (by omega)).trans ((congrArg (zm_divides_L57 i57) hz57).trans (by unfold zm_divides_L57; exact zlet_e e78 rfl)), hI78, fun kk ii hk => ((show S78 kk ii = S57 kk ii from by rw [← e78]; exact za_ne (by omega))).trans (hf57 kk ii (by omega))⟩ (by omega) H locs ls hW (lv_sub hl [0, 1, 2, 3] rfl)
        exact hL57 _ 0 S5 ⟨⟨by omega, by omega⟩, zfor_0 _ _ _, hI5, fun kk ii hk => rfl⟩ (Nat.lt_succ_self _) H locs ls hW (lv_sub hl [0, 2, 3, 4] rfl)
      ·
        refine lv_aload_n hX0 hB0 dX12_divides_11 rfl (lv_at hl 2 rfl) ?_
        refine z_get (Cn := RX12) (T := TX12) (N := 37) CX hW (v := .ref (o + 9)) zMO_0 rfl (fun w h => List.mem_cons_of_mem _ (List.mem_append_right _ h)) 20 (by decide) (List.mem_of_getElem? (i := 1) rfl) rfl rfl dX12_divides_12 ?_
        refine lv_iload hX0 hB0 dX12_divides_15 (lv_at hl 0 rfl) ?_
        refine z_iald (z := S5 9 i5.toNat) CX hW zMO_9 0 rfl (by refine ⟨?_, ?_, ?_⟩ <;> omega) rfl dX12_divides_17 ?_
        have hr17 := hI5.r9 i5.toNat
        refine z_i2l CX dX12_divides_18 (by constructor <;> omega) ?_
        refine lv_lload_n hX0 hB0 dX12_divides_19 rfl (lv_at hl 1 rfl) ?_
        refine lv_iload_n hX0 hB0 dX12_divides_20 rfl (lv_at hl 4 rfl) ?_
        refine z_i2l CX dX12_divides_21 (by constructor <;> omega) ?_
        refine z_lmul (z := c5 * w) CX dX12_divides_22 rfl ?_
        have hm22 := zbox_mul (a := c5) (b := w) (A := 30) (B := 31) (by constructor <;> omega) (by constructor <;> omega) (C := 930) (by decide)
        refine z_ladd (z := (S5 9 i5.toNat) + (c5 * w)) CX dX12_divides_23 rfl ?_
        refine lv_aload_n hX0 hB0 dX12_divides_24 rfl (lv_at hl 2 rfl) ?_
        refine z_get (Cn := RX12) (T := TX12) (N := 37) CX hW (v := .int (zI (S5 0 10))) zMO_0 rfl (fun w h => List.mem_cons_of_mem _ (List.mem_append_right _ h)) 10 (by decide) (List.mem_of_getElem? (i := 2) rfl) rfl rfl dX12_divides_25 ?_
        have hr25 := hI5.s10
        refine z_i2l CX dX12_divides_28 (by constructor <;> omega) ?_
        refine z_lrem (z := Int.tmod ((S5 9 i5.toNat) + (c5 * w)) (S5 0 10)) CX dX12_divides_29 (by constructor <;> omega) (by constructor <;> omega) rfl ?_
        have ht29 := ztm (n := (S5 9 i5.toNat) + (c5 * w)) (p := S5 0 10) (by omega)
        refine lv_lstore (lv' := [(6, .long (zL (Int.tmod ((S5 9 i5.toNat) + (c5 * w)) (S5 0 10)))), (5, .int (zI i5)), (3, .long (zL c5)), (0, .ref o), (1, .int (zI top)), (2, .int (zI w))]) hX0 hB0 dX12_divides_30 hl (by decide) rfl (fun ls hl => ?_)
        refine lv_aload_n hX0 hB0 dX12_divides_32 rfl (lv_at hl 3 rfl) ?_
        refine z_get (Cn := RX12) (T := TX12) (N := 37) CX hW (v := .ref (o + 9)) zMO_0 rfl (fun w h => List.mem_cons_of_mem _ (List.mem_append_right _ h)) 20 (by decide) (List.mem_of_getElem? (i := 1) rfl) rfl rfl dX12_divides_33 ?_
        refine lv_iload hX0 hB0 dX12_divides_36 (lv_at hl 1 rfl) ?_
        refine lv_aload_n hX0 hB0 dX12_divides_38 rfl (lv_at hl 3 rfl) ?_
        refine lv_lload hX0 hB0 dX12_divides_39 (lv_at hl 0 rfl) ?_
        refine z_calli hW (va_runV (C := RX12) (As := [.long (zL (Int.tmod ((S5 9 i5.toNat) + (c5 * w)) (S5 0 10)))]) (rest := [.int (zI i5), .ref (o + 9)]) CX.fix (zk_modulo l o S5 (Int.tmod ((S5 9 i5.toNat) + (c5 * w)) (S5 0 10)) hI5 (by constructor <;> omega)) (cwV 1 CX.fix.2.2.2.2 gX12_divides_X12_modulo rfl rfl rfl (by decide +kernel) ⟨Nat.le_of_ble_eq_true rfl, Nat.le_of_ble_eq_true rfl⟩) (z_preV CX hW (r := (RX12, TX12, 37)) zMO_0 rfl) rfl rfl hl.1 rfl (lv_room (Nat.le_of_ble_eq_true rfl)) dX12_divides_41 ⟨Nat.zero_le _, Nat.zero_le _⟩) (fun z41 gn H locs hok hW => ?_)
        obtain ⟨hz41, hg, hq41⟩ := hok
        rw [hg] at hW
        clear hg
        have e41 : zm_modulo S5 (Int.tmod ((S5 9 i5.toNat) + (c5 * w)) (S5 0 10)) = z41 := hz41.symm
        clear hz41
        obtain ⟨S44, e44⟩ : ∃ q, za S5 9 i5.toNat z41 = q := ⟨_, rfl⟩
        refine z_iast CX hW zMO_9 0 rfl (by refine ⟨?_, ?_, ?_⟩ <;> omega) (g := zMO cI cJ o S44 f) (zMO_w9.trans (by rw [← e44]; rfl)) dX12_divides_44 (fun H locs hW => ?_)
        have hI44 : mI S44 := e44 ▸ hI5.w9 (by constructor <;> omega)
        refine lv_lload hX0 hB0 dX12_divides_45 (lv_at hl 0 rfl) ?_
        refine lv_lstore_n (lv' := [(3, .long (zL (Int.tmod ((S5 9 i5.toNat) + (c5 * w)) (S5 0 10)))), (6, .long (zL (Int.tmod ((S5 9 i5.toNat) + (c5 * w)) (S5 0 10)))), (5, .int (zI i5)), (0, .ref o), (1, .int (zI top)), (2, .int (zI w))]) hX0 hB0 dX12_divides_47 rfl hl (by decide) rfl (fun ls hl => ?_)
        refine lv_iinc (v := zI (i5 + (-1))) (lv' := [(5, .int (zI (i5 + (-1)))), (3, .long (zL (Int.tmod ((S5 9 i5.toNat) + (c5 * w)) (S5 0 10)))), (6, .long (zL (Int.tmod ((S5 9 i5.toNat) + (c5 * w)) (S5 0 10)))), (0, .ref o), (1, .int (zI top)), (2, .int (zI w))]) hX0 hB0 dX12_divides_48 hl (k := 2) rfl (zI_add _ _) (by decide) rfl (fun ls hl => ?_)
        refine lv_goto (tgt := 5) hX0 hB0 dX12_divides_51 (by decide) ?_
        exact ih5 (i5 + (-1)) (Int.tmod ((S5 9 i5.toNat) + (c5 * w)) (S5 0 10)) S44 ⟨⟨by omega, by omega⟩, (zforD_t _ _ _ (by omega)).trans ((congrArg (zm_divides_L5 w i5) hz5).trans (by unfold zm_divides_L5; exact zlet_e e41 (zlet_e e44 rfl))), hI44, fun kk ii hk => ((show S44 kk ii = S5 kk ii from by rw [← e44]; exact za_ne (by omega))).trans (hf5 kk ii (by omega)), by omega, by omega⟩ (by omega) H locs ls hW (lv_sub hl [0, 1, 3, 4, 5] rfl)
  exact hL5 _ top 0 S ⟨⟨by omega, by omega⟩, zforD_0 _ _ _ (by omega), hI, fun kk ii hk => rfl, by omega, by omega⟩ (Nat.lt_succ_self _) H locs ls hW (lv_sub hl [0, 1, 2, 3, 4] rfl)
def zm_oftenTangent_L5 (ord : Int) : Int → zS2 → zS2 := fun i5 s5 => (fun (S5 : zS2) => zlet (zm_cell S5 141 (ord - i5) i5) (fun z27 => zlet (za S5 9 i5.toNat z27) (fun S30 => S30))) s5
def zm_oftenTangent_W73 (way : Int) : Nat → Int → Int → zS2 → Int × Int × zS2
  | 0, t73, q73, S73 => (t73, q73, S73)
  | fu73 + 1, t73, q73, S73 => (if t73 ≤ 0 then (t73, q73, S73) else zlet (zm_atT S73 t73 way) (fun z80 => (if z80 = 0 then zlet (zm_divides S73 t73 way) (fun S89 => zm_oftenTangent_W73 way fu73 (t73 + (-1)) (q73 + 1) S89) else (t73, q73, S73))))
def zm_oftenTangent_W48 (S5 : zS2) : Nat → Int → Int → Int × Int
  | 0, t48, q48 => (t48, q48)
  | fu48 + 1, t48, q48 => (if t48 < 0 then (t48, q48) else (if S5 9 t48.toNat = 0 then zm_oftenTangent_W48 S5 fu48 (t48 + (-1)) (q48 + 1) else (t48, q48)))
def zm_oftenTangent (S : zS2) (ord : Int) (way : Int) : Int × zS2 := zlet (zfor (zm_oftenTangent_L5 ord) 0 S (ord + 1 - 0).toNat) (fun S5 => (if way = S5 0 10 then zlet (zm_oftenTangent_W48 S5 ((8 : Nat)) ord 0) (fun q48 => (fun (t48 : Int) (q48 : Int) => (q48, S5)) q48.1 q48.2) else zlet (zm_oftenTangent_W73 way ((8 : Nat)) ord 0 S5) (fun q73 => (fun (t73 : Int) (q73 : Int) (S73 : zS2) => (q73, S73)) q73.1 q73.2.1 q73.2.2)))
set_option maxRecDepth 100000 in
set_option maxHeartbeats 4000000 in
theorem zk_oftenTangent (l : Launch) {D : va_G} {cI cJ cZ cP cS cM : ClassId} {L : List Nat} {sz : Nat} {f : Nat → va_E} (o : Nat) (S : zS2) (ord : Int) (way : Int) (hI : mI S) (hord : 0 ≤ ord ∧ ord ≤ 5) (hway : 0 ≤ way ∧ way ≤ 31) : zMi l yX12_oftenTangent wsX12_oftenTangent 2 51 D (zT cI cJ cZ cP cS cM) L sz (zMO cI cJ o S f) [.ref o, .int (zI ord), .int (zI way)] (fun zv gv => zv = (zm_oftenTangent S ord way).1 ∧ gv = zMO cI cJ o (zm_oftenTangent S ord way).2 f ∧ mI (zm_oftenTangent S ord way).2 ∧ (∀ kk ii : Nat, ¬ kk = 9 → (zm_oftenTangent S ord way).2 kk ii = S kk ii) ∧ 0 ≤ zv ∧ zv ≤ 6) := by
  refine zWalk.met (nL := 5) (ret := (some .int)) (cc := cX12_oftenTangent) (by decide) rfl (Nat.le_of_ble_eq_true rfl) ?_
  intro pg en st mi ag bl mt cd ls CX hW hl
  have CX : zC pg st mi ag mt cd cX12_oftenTangent 5 (some .int) RX12 wsX12_oftenTangent := CX
  generalize hQ : MQ bl _ ag st 0 0 _ = Q
  have hX0 := CX.1
  have hB0 := CX.2.1
  have hl : lv_has ls 5 [(0, .ref o), (1, .int (zI ord)), (2, .int (zI way))] := hl
  obtain ⟨H, eH⟩ : ∃ H, H = st.heap := ⟨_, rfl⟩
  obtain ⟨locs, eL⟩ : ∃ L : List Loc, L = [] := ⟨_, rfl⟩
  have hW : zW D (zT cI cJ cZ cP cS cM) L (zQ L sz) st (zMO cI cJ o S f) st.heap H locs := by rw [eH, eL]; exact hW
  suffices hgo : W pg l en ({ frames := 2, cells := 0, slots := 0, locals := 51 } : Room) st mi ag bl mt cd H locs 0 0 Q (F0 mi 0 ls []) by rw [eH, eL] at hgo; exact hgo
  clear eH eL
  have hpb := hI.s10
  refine lv_iload_n hX0 hB0 dX12_oftenTangent_0 rfl (lv_at hl 1 rfl) ?_
  refine lv_istore_n (lv' := [(3, .int (zI ord)), (0, .ref o), (1, .int (zI ord)), (2, .int (zI way))]) hX0 hB0 dX12_oftenTangent_1 rfl hl (by decide) rfl (fun ls hl => ?_)
  refine lv_iconst (v := zI 0) hX0 hB0 dX12_oftenTangent_2 rfl ?_
  refine lv_istore (lv' := [(4, .int (zI 0)), (3, .int (zI ord)), (0, .ref o), (1, .int (zI ord)), (2, .int (zI way))]) hX0 hB0 dX12_oftenTangent_3 hl (by decide) rfl (fun ls hl => ?_)
  have hL5 : ∀ (fu : Nat) (i5 : Int) (S5 : zS2), ((0 ≤ i5 ∧ i5 ≤ ord + 1) ∧ zfor (zm_oftenTangent_L5 ord) 0 S (i5 - 0).toNat = S5 ∧ mI S5 ∧ (∀ kk ii : Nat, ¬ kk = 9 → S5 kk ii = S kk ii)) → (ord + 1 - i5).toNat < fu → ∀ (H : Heap) (locs : List Loc) (ls : Array Slot), zW D (zT cI cJ cZ cP cS cM) L (zQ L sz) st (zMO cI cJ o S5 f) st.heap H locs → lv_has ls 5 [(4, .int (zI i5)), (3, .int (zI ord)), (0, .ref o), (1, .int (zI ord)), (2, .int (zI way))] → W pg l en ({ frames := 2, cells := 0, slots := 0, locals := 51 } : Room) st mi ag bl mt cd H locs 0 0 Q (F0 mi 5 ls []) := by
    intro fu
    induction fu with
    | zero => intro i5 S5 _ hfu; exact absurd hfu (Nat.not_lt_zero _)
    | succ fu ih5 =>
      intro i5 S5 hinv hfu5 H locs ls hW hl
      obtain ⟨⟨hlo5, hhi5⟩, hz5, hI5, hf5⟩ := hinv
      have hp5 := hI5.s10
      refine lv_iload hX0 hB0 dX12_oftenTangent_5 (lv_at hl 0 rfl) ?_
      refine lv_iload_n hX0 hB0 dX12_oftenTangent_7 rfl (lv_at hl 3 rfl) ?_
      refine z_icmp_gt (tgt := 37) CX dX12_oftenTangent_8 (by decide) (by constructor <;> omega) (by constructor <;> omega) (fun c_8 => ?_) (fun c_8 => ?_)
      ·
        have e5 : zfor (zm_oftenTangent_L5 ord) 0 S (ord + 1 - 0).toNat = S5 := by rw [show (ord + 1 - 0).toNat = (i5 - 0).toNat by omega]; exact hz5
        refine lv_iconst (v := zI 0) hX0 hB0 dX12_oftenTangent_37 rfl ?_
        refine lv_istore (lv' := [(4, .int (zI 0)), (3, .int (zI ord)), (0, .ref o), (1, .int (zI ord)), (2, .int (zI way))]) hX0 hB0 dX12_oftenTangent_38 hl (by decide) rfl (fun ls hl => ?_)
        refine lv_iload_n hX0 hB0 dX12_oftenTangent_40 rfl (lv_at hl 4 rfl) ?_
        refine lv_aload_n hX0 hB0 dX12_oftenTangent_41 rfl (lv_at hl 2 rfl) ?_
        refine z_get (Cn := RX12) (T := TX12) (N := 37) CX hW (v := .int (zI (S5 0 10))) zMO_0 rfl (fun w h => List.mem_cons_of_mem _ (List.mem_append_right _ h)) 10 (by decide) (List.mem_of_getElem? (i := 2) rfl) rfl rfl dX12_oftenTangent_42 ?_
        have hr42 := hI5.s10
        refine z_icmp_ne (tgt := 73) CX dX12_oftenTangent_45 (by decide) (by constructor <;> omega) (by constructor <;> omega) (fun c_45 => ?_) (fun c_45 => ?_)
        ·
          have hXt73 : ∀ (t73 : Int) (q73 : Int) (S73 : zS2), (zm_oftenTangent_W73 way ((8 : Nat)) ord 0 S5 = (t73, q73, S73) ∧ mI S73 ∧ (∀ kk ii : Nat, ¬ kk = 9 → S73 kk ii = S5 kk ii) ∧ 0 ≤ t73 ∧ t73 ≤ 5 ∧ 0 ≤ q73 ∧ q73 ≤ 6 ∧ (t73 + q73 = ord)) → ∀ (H : Heap) (locs : List Loc) (ls : Array Slot), zW D (zT cI cJ cZ cP cS cM) L (zQ L sz) st (zMO cI cJ o S73 f) st.heap H locs → lv_has ls 5 [(3, .int (zI t73)), (4, .int (zI q73)), (0, .ref o), (1, .int (zI ord)), (2, .int (zI way))] → W pg l en ({ frames := 2, cells := 0, slots := 0, locals := 51 } : Room) st mi ag bl mt cd H locs 0 0 Q (F0 mi 101 ls []) := by
            intro t73 q73 S73 hinv H locs ls hW hl
            obtain ⟨e73, hI73, hf73, hat73, hbt73, haq73, hbq73, hv73⟩ := hinv
            have hp73 := hI73.s10
            refine lv_iload hX0 hB0 dX12_oftenTangent_101 (lv_at hl 1 rfl) ?_
            have hE : zm_oftenTangent S ord way = (q73, S73) := by unfold zm_oftenTangent; exact zlet_e e5 (zif_f c_45 (zlet_e e73 rfl))
            have hFr : ∀ kk ii : Nat, ¬ kk = 9 → S73 kk ii = S kk ii := fun kk ii hk => ((hf73 kk ii (by omega))).trans (hf5 kk ii (by omega))
            rw [← hQ]
            exact z_iret (z := q73) CX hW (by rw [hE]; exact ⟨rfl, rfl, hI73, hFr, (show 0 ≤ q73 ∧ q73 ≤ 6 from by omega)⟩) rfl dX12_oftenTangent_103
          have hL73 : ∀ (fu : Nat) (t73 : Int) (q73 : Int) (S73 : zS2), (zm_oftenTangent_W73 way ((8 : Nat)) ord 0 S5 = zm_oftenTangent_W73 way fu t73 q73 S73 ∧ mI S73 ∧ (∀ kk ii : Nat, ¬ kk = 9 → S73 kk ii = S5 kk ii) ∧ 0 ≤ t73 ∧ t73 ≤ 5 ∧ 0 ≤ q73 ∧ q73 ≤ 6 ∧ (t73 + q73 = ord)) → (t73 + 1).toNat < fu → ∀ (H : Heap) (locs : List Loc) (ls : Array Slot), zW D (zT cI cJ cZ cP cS cM) L (zQ L sz) st (zMO cI cJ o S73 f) st.heap H locs → lv_has ls 5 [(3, .int (zI t73)), (4, .int (zI q73)), (0, .ref o), (1, .int (zI ord)), (2, .int (zI way))] → W pg l en ({ frames := 2, cells := 0, slots := 0, locals := 51 } : Room) st mi ag bl mt cd H locs 0 0 Q (F0 mi 73 ls []) := by
            intro fu
            induction fu with
            | zero => intro t73 q73 S73 _ hfu; exact absurd hfu (Nat.not_lt_zero _)
            | succ fu ih73 =>
              intro t73 q73 S73 hinv hfu73 H locs ls hW hl
              obtain ⟨hz73, hI73, hf73, hat73, hbt73, haq73, hbq73, hv73⟩ := hinv
              have hp73 := hI73.s10
              refine lv_iload_n hX0 hB0 dX12_oftenTangent_73 rfl (lv_at hl 0 rfl) ?_
              refine z_if_le (tgt := 101) CX dX12_oftenTangent_74 (by decide) (by constructor <;> omega) (fun c_74 => ?_) (fun c_74 => ?_)
              ·
                exact hXt73 t73 q73 S73 ⟨hz73.trans (by rw [zm_oftenTangent_W73]; exact zif_t c_74 rfl), hI73, fun kk ii hk => (hf73 kk ii (by omega)), by omega, by omega, by omega, by omega, by omega⟩ H locs ls hW (lv_sub hl [0, 1, 2, 3, 4] rfl)
              ·
                have d_74 : ¬ t73 ≤ 0 := by omega
                refine lv_aload_n hX0 hB0 dX12_oftenTangent_77 rfl (lv_at hl 2 rfl) ?_
                refine lv_iload_n hX0 hB0 dX12_oftenTangent_78 rfl (lv_at hl 0 rfl) ?_
                refine lv_iload_n hX0 hB0 dX12_oftenTangent_79 rfl (lv_at hl 4 rfl) ?_
                refine z_calli hW (va_runV (C := RX12) (As := [.int (zI t73), .int (zI way)]) (rest := []) CX.fix (zk_atT l o S73 t73 way hI73 (by constructor <;> omega) (by constructor <;> omega)) (cwV 2 CX.fix.2.2.2.2 gX12_oftenTangent_X12_atT rfl rfl rfl (by decide +kernel) ⟨Nat.le_of_ble_eq_true rfl, Nat.le_of_ble_eq_true rfl⟩) (z_preV CX hW (r := (RX12, TX12, 37)) zMO_0 rfl) rfl rfl hl.1 rfl (lv_room (Nat.le_of_ble_eq_true rfl)) dX12_oftenTangent_80 ⟨Nat.zero_le _, Nat.zero_le _⟩) (fun z80 gn H locs hok hW => ?_)
                obtain ⟨hz80, hg, hq80⟩ := hok
                rw [hg] at hW
                clear hg
                have e80 : zm_atT S73 t73 way = z80 := hz80.symm
                clear hz80
                refine z_if_ne (tgt := 101) CX dX12_oftenTangent_83 (by decide) (by constructor <;> omega) (fun c_83 => ?_) (fun c_83 => ?_)
                ·
                  exact hXt73 t73 q73 S73 ⟨hz73.trans (by rw [zm_oftenTangent_W73]; exact zif_f d_74 (zlet_e e80 (zif_f c_83 rfl))), hI73, fun kk ii hk => (hf73 kk ii (by omega)), by omega, by omega, by omega, by omega, by omega⟩ H locs ls hW (lv_sub hl [0, 1, 2, 3, 4] rfl)
                ·
                  refine lv_aload_n hX0 hB0 dX12_oftenTangent_86 rfl (lv_at hl 2 rfl) ?_
                  refine lv_iload_n hX0 hB0 dX12_oftenTangent_87 rfl (lv_at hl 0 rfl) ?_
                  refine lv_iload_n hX0 hB0 dX12_oftenTangent_88 rfl (lv_at hl 4 rfl) ?_
                  refine z_callv hW (va_runV (C := RX12) (As := [.int (zI t73), .int (zI way)]) (rest := []) CX.fix (zk_divides l o S73 t73 way hI73 (by constructor <;> omega) (by constructor <;> omega)) (cwV 2 CX.fix.2.2.2.2 gX12_oftenTangent_X12_divides rfl rfl rfl (by decide +kernel) ⟨Nat.le_of_ble_eq_true rfl, Nat.le_of_ble_eq_true rfl⟩) (z_preV CX hW (r := (RX12, TX12, 37)) zMO_0 rfl) rfl rfl hl.1 rfl (lv_room (Nat.le_of_ble_eq_true rfl)) dX12_oftenTangent_89 ⟨Nat.zero_le _, Nat.zero_le _⟩) (fun gn H locs hok hW => ?_)
                  obtain ⟨hg, hI89, hf89, hq89⟩ := hok
                  obtain ⟨S89, e89⟩ : ∃ q, zm_divides S73 t73 way = q := ⟨_, rfl⟩
                  rw [e89] at hg hI89 hf89
                  skip
                  try rw [e89] at hq89
                  rw [hg] at hW
                  clear hg
                  refine lv_iinc (v := zI (t73 + (-1))) (lv' := [(3, .int (zI (t73 + (-1)))), (4, .int (zI q73)), (0, .ref o), (1, .int (zI ord)), (2, .int (zI way))]) hX0 hB0 dX12_oftenTangent_92 hl (k := 0) rfl (zI_add _ _) (by decide) rfl (fun ls hl => ?_)
                  refine lv_iinc (v := zI (q73 + 1)) (lv' := [(4, .int (zI (q73 + 1))), (3, .int (zI (t73 + (-1)))), (0, .ref o), (1, .int (zI ord)), (2, .int (zI way))]) hX0 hB0 dX12_oftenTangent_95 hl (k := 1) rfl (zI_add _ _) (by decide) rfl (fun ls hl => ?_)
                  refine lv_goto (tgt := 73) hX0 hB0 dX12_oftenTangent_98 (by decide) ?_
                  exact ih73 (t73 + (-1)) (q73 + 1) S89 ⟨hz73.trans (by rw [zm_oftenTangent_W73]; exact zif_f d_74 (zlet_e e80 (zif_t c_83 (zlet_e e89 rfl)))), hI89, fun kk ii hk => ((hf89 kk ii (by omega))).trans (hf73 kk ii (by omega)), by omega, by omega, by omega, by omega, by omega⟩ (by omega) H locs ls hW (lv_sub hl [1, 0, 2, 3, 4] rfl)
          exact hL73 _ ord 0 S5 ⟨rfl, hI5, fun kk ii hk => rfl, by omega, by omega, by omega, by omega, by omega⟩ (by omega) H locs ls hW (lv_sub hl [1, 0, 2, 3, 4] rfl)
        ·
          have hXt48 : ∀ (t48 : Int) (q48 : Int), (zm_oftenTangent_W48 S5 ((8 : Nat)) ord 0 = (t48, q48) ∧ -1 ≤ t48 ∧ t48 ≤ 5 ∧ 0 ≤ q48 ∧ q48 ≤ 6 ∧ (t48 + q48 = ord)) → ∀ (H : Heap) (locs : List Loc) (ls : Array Slot), zW D (zT cI cJ cZ cP cS cM) L (zQ L sz) st (zMO cI cJ o S5 f) st.heap H locs → lv_has ls 5 [(3, .int (zI t48)), (4, .int (zI q48)), (0, .ref o), (1, .int (zI ord)), (2, .int (zI way))] → W pg l en ({ frames := 2, cells := 0, slots := 0, locals := 51 } : Room) st mi ag bl mt cd H locs 0 0 Q (F0 mi 70 ls []) := by
            intro t48 q48 hinv H locs ls hW hl
            obtain ⟨e48, hat48, hbt48, haq48, hbq48, hv48⟩ := hinv
            refine lv_iload hX0 hB0 dX12_oftenTangent_70 (lv_at hl 1 rfl) ?_
            have hE : zm_oftenTangent S ord way = (q48, S5) := by unfold zm_oftenTangent; exact zlet_e e5 (zif_t c_45 (zlet_e e48 rfl))
            have hFr : ∀ kk ii : Nat, ¬ kk = 9 → S5 kk ii = S kk ii := fun kk ii hk => (hf5 kk ii (by omega))
            rw [← hQ]
            exact z_iret (z := q48) CX hW (by rw [hE]; exact ⟨rfl, rfl, hI5, hFr, (show 0 ≤ q48 ∧ q48 ≤ 6 from by omega)⟩) rfl dX12_oftenTangent_72
          have hL48 : ∀ (fu : Nat) (t48 : Int) (q48 : Int), (zm_oftenTangent_W48 S5 ((8 : Nat)) ord 0 = zm_oftenTangent_W48 S5 fu t48 q48 ∧ -1 ≤ t48 ∧ t48 ≤ 5 ∧ 0 ≤ q48 ∧ q48 ≤ 6 ∧ (t48 + q48 = ord)) → (t48 + 1).toNat < fu → ∀ (H : Heap) (locs : List Loc) (ls : Array Slot), zW D (zT cI cJ cZ cP cS cM) L (zQ L sz) st (zMO cI cJ o S5 f) st.heap H locs → lv_has ls 5 [(3, .int (zI t48)), (4, .int (zI q48)), (0, .ref o), (1, .int (zI ord)), (2, .int (zI way))] → W pg l en ({ frames := 2, cells := 0, slots := 0, locals := 51 } : Room) st mi ag bl mt cd H locs 0 0 Q (F0 mi 48 ls []) := by
            intro fu
            induction fu with
            | zero => intro t48 q48 _ hfu; exact absurd hfu (Nat.not_lt_zero _)
            | succ fu ih48 =>
              intro t48 q48 hinv hfu48 H locs ls hW hl
              obtain ⟨hz48, hat48, hbt48, haq48, hbq48, hv48⟩ := hinv
              refine lv_iload_n hX0 hB0 dX12_oftenTangent_48 rfl (lv_at hl 0 rfl) ?_
              refine z_if_lt (tgt := 70) CX dX12_oftenTangent_49 (by decide) (by constructor <;> omega) (fun c_49 => ?_) (fun c_49 => ?_)
              ·
                exact hXt48 t48 q48 ⟨hz48.trans (by rw [zm_oftenTangent_W48]; exact zif_t c_49 rfl), by omega, by omega, by omega, by omega, by omega⟩ H locs ls hW (lv_sub hl [0, 1, 2, 3, 4] rfl)
              ·
                have d_49 : ¬ t48 < 0 := by omega
                refine lv_aload_n hX0 hB0 dX12_oftenTangent_52 rfl (lv_at hl 2 rfl) ?_
                refine z_get (Cn := RX12) (T := TX12) (N := 37) CX hW (v := .ref (o + 9)) zMO_0 rfl (fun w h => List.mem_cons_of_mem _ (List.mem_append_right _ h)) 20 (by decide) (List.mem_of_getElem? (i := 1) rfl) rfl rfl dX12_oftenTangent_53 ?_
                refine lv_iload_n hX0 hB0 dX12_oftenTangent_56 rfl (lv_at hl 0 rfl) ?_
                refine z_iald (z := S5 9 t48.toNat) CX hW zMO_9 0 rfl (by refine ⟨?_, ?_, ?_⟩ <;> omega) rfl dX12_oftenTangent_57 ?_
                have hr57 := hI5.r9 t48.toNat
                refine z_if_ne (tgt := 70) CX dX12_oftenTangent_58 (by decide) (by constructor <;> omega) (fun c_58 => ?_) (fun c_58 => ?_)
                ·
                  exact hXt48 t48 q48 ⟨hz48.trans (by rw [zm_oftenTangent_W48]; exact zif_f d_49 (zif_f c_58 rfl)), by omega, by omega, by omega, by omega, by omega⟩ H locs ls hW (lv_sub hl [0, 1, 2, 3, 4] rfl)
                ·
                  refine lv_iinc (v := zI (t48 + (-1))) (lv' := [(3, .int (zI (t48 + (-1)))), (4, .int (zI q48)), (0, .ref o), (1, .int (zI ord)), (2, .int (zI way))]) hX0 hB0 dX12_oftenTangent_61 hl (k := 0) rfl (zI_add _ _) (by decide) rfl (fun ls hl => ?_)
                  refine lv_iinc (v := zI (q48 + 1)) (lv' := [(4, .int (zI (q48 + 1))), (3, .int (zI (t48 + (-1)))), (0, .ref o), (1, .int (zI ord)), (2, .int (zI way))]) hX0 hB0 dX12_oftenTangent_64 hl (k := 1) rfl (zI_add _ _) (by decide) rfl (fun ls hl => ?_)
                  refine lv_goto (tgt := 48) hX0 hB0 dX12_oftenTangent_67 (by decide) ?_
                  exact ih48 (t48 + (-1)) (q48 + 1) ⟨hz48.trans (by rw [zm_oftenTangent_W48]; exact zif_f d_49 (zif_t c_58 rfl)), by omega, by omega, by omega, by omega, by omega⟩ (by omega) H locs ls hW (lv_sub hl [1, 0, 2, 3, 4] rfl)
          exact hL48 _ ord 0 ⟨rfl, by omega, by omega, by omega, by omega, by omega⟩ (by omega) H locs ls hW (lv_sub hl [1, 0, 2, 3, 4] rfl)
      ·
        refine lv_aload_n hX0 hB0 dX12_oftenTangent_11 rfl (lv_at hl 2 rfl) ?_
        refine z_get (Cn := RX12) (T := TX12) (N := 37) CX hW (v := .ref (o + 9)) zMO_0 rfl (fun w h => List.mem_cons_of_mem _ (List.mem_append_right _ h)) 20 (by decide) (List.mem_of_getElem? (i := 1) rfl) rfl rfl dX12_oftenTangent_12 ?_
        refine lv_iload hX0 hB0 dX12_oftenTangent_15 (lv_at hl 0 rfl) ?_
        refine lv_aload_n hX0 hB0 dX12_oftenTangent_17 rfl (lv_at hl 2 rfl) ?_
        refine lv_sipush (v := zI 141) hX0 hB0 dX12_oftenTangent_18 (by decide) ?_
        refine lv_iload_n hX0 hB0 dX12_oftenTangent_21 rfl (lv_at hl 3 rfl) ?_
        refine lv_iload hX0 hB0 dX12_oftenTangent_22 (lv_at hl 0 rfl) ?_
        refine z_isub (z := ord - i5) CX dX12_oftenTangent_24 rfl ?_
        refine lv_iload hX0 hB0 dX12_oftenTangent_25 (lv_at hl 0 rfl) ?_
        refine z_calli hW (va_runV (C := RX12) (As := [.int (zI 141), .int (zI (ord - i5)), .int (zI i5)]) (rest := [.int (zI i5), .ref (o + 9)]) CX.fix (zk_cell l o S5 141 (ord - i5) i5 hI5 (by constructor <;> omega) (by constructor <;> omega) (by constructor <;> omega)) (cwV 3 CX.fix.2.2.2.2 gX12_oftenTangent_X12_cell rfl rfl rfl (by decide +kernel) ⟨Nat.le_of_ble_eq_true rfl, Nat.le_of_ble_eq_true rfl⟩) (z_preV CX hW (r := (RX12, TX12, 37)) zMO_0 rfl) rfl rfl hl.1 rfl (lv_room (Nat.le_of_ble_eq_true rfl)) dX12_oftenTangent_27 ⟨Nat.zero_le _, Nat.zero_le _⟩) (fun z27 gn H locs hok hW => ?_)
        obtain ⟨hz27, hg, hq27⟩ := hok
        rw [hg] at hW
        clear hg
        have e27 : zm_cell S5 141 (ord - i5) i5 = z27 := hz27.symm
        clear hz27
        obtain ⟨S30, e30⟩ : ∃ q, za S5 9 i5.toNat z27 = q := ⟨_, rfl⟩
        refine z_iast CX hW zMO_9 0 rfl (by refine ⟨?_, ?_, ?_⟩ <;> omega) (g := zMO cI cJ o S30 f) (zMO_w9.trans (by rw [← e30]; rfl)) dX12_oftenTangent_30 (fun H locs hW => ?_)
        have hI30 : mI S30 := e30 ▸ hI5.w9 (by constructor <;> omega)
        refine lv_iinc (v := zI (i5 + 1)) (lv' := [(4, .int (zI (i5 + 1))), (3, .int (zI ord)), (0, .ref o), (1, .int (zI ord)), (2, .int (zI way))]) hX0 hB0 dX12_oftenTangent_31 hl (k := 0) rfl (zI_add _ _) (by decide) rfl (fun ls hl => ?_)
        refine lv_goto (tgt := 5) hX0 hB0 dX12_oftenTangent_34 (by decide) ?_
        exact ih5 (i5 + 1) S30 ⟨⟨by omega, by omega⟩, (zfor_s _ _ _ (by omega)).trans ((congrArg (zm_oftenTangent_L5 ord i5) hz5).trans (by unfold zm_oftenTangent_L5; exact zlet_e e27 (zlet_e e30 rfl))), hI30, fun kk ii hk => ((show S30 kk ii = S5 kk ii from by rw [← e30]; exact za_ne (by omega))).trans (hf5 kk ii (by omega))⟩ (by omega) H locs ls hW (lv_sub hl [0, 1, 2, 3, 4] rfl)
  exact hL5 _ 0 S ⟨⟨by omega, by omega⟩, zfor_0 _ _ _, hI, fun kk ii hk => rfl⟩ (Nat.lt_succ_self _) H locs ls hW (lv_sub hl [0, 1, 2, 3, 4] rfl)
def zm_tangent_W59 (k : Int) (what : Int) (z45 : Int) : Nat → Int → Int → Int → zS2 → (Int × zS2) ⊕ (Int × Int × Int × zS2)
  | 0, n59, a59, w59, S59 => .inr (n59, a59, w59, S59)
  | fu59 + 1, n59, a59, w59, S59 => (if S59 0 10 < w59 then .inr (n59, a59, w59, S59) else zlet (zm_oftenTangent S59 z45 w59) (fun q73 => (fun (z73 : Int) (S73 : zS2) => (if z73 = 0 then zm_tangent_W59 k what z45 fu59 n59 a59 (w59 + 1) S73 else (if n59 = k then (if what = 0 then .inl ((w59, S73)) else .inl ((z73, S73))) else zm_tangent_W59 k what z45 fu59 (n59 + 1) (a59 + z73) (w59 + 1) S73))) q73.1 q73.2))
def zm_tangent (S : zS2) (cv : Int) (pt : Int) (k : Int) (what : Int) : Int × zS2 := zlet (zm_isCurve S cv) (fun z2 => (if z2 = 0 then (-1, S) else zlet (zm_isPoint S pt) (fun z10 => (if z10 = 0 then (-1, S) else (if k < -1 then (-1, S) else zlet (zm_isIn what 0 1) (fun z25 => (if z25 = 0 then (-1, S) else zlet (zm_valueAt S cv pt) (fun z34 => (if z34 = 0 then zlet (zm_orderAt S cv pt) (fun q45 => (fun (z45 : Int) (S45 : zS2) => zsum (zm_tangent_W59 k what z45 ((34 : Nat)) 0 0 0 S45) (fun r59 => r59) (fun q59 => (fun (n59 : Int) (a59 : Int) (w59 : Int) (S59 : zS2) => (if k = -1 then (if what = 0 then (n59, S59) else (a59, S59)) else (-1, S59))) q59.1 q59.2.1 q59.2.2.1 q59.2.2.2)) q45.1 q45.2) else (-1, S))))))))))
set_option maxRecDepth 100000 in
set_option maxHeartbeats 4000000 in
theorem zk_tangent (l : Launch) {D : va_G} {cI cJ cZ cP cS cM : ClassId} {L : List Nat} {sz : Nat} {f : Nat → va_E} (o : Nat) (S : zS2) (cv : Int) (pt : Int) (k : Int) (what : Int) (hI : mI S) (hcv : -2147483648 ≤ cv ∧ cv ≤ 2147483647) (hpt : -2147483648 ≤ pt ∧ pt ≤ 2147483647) (hk : -2147483648 ≤ k ∧ k ≤ 2147483647) (hwhat : -2147483648 ≤ what ∧ what ≤ 2147483647) : zMi l yX12_tangent wsX12_tangent 5 127 D (zT cI cJ cZ cP cS cM) L sz (zMO cI cJ o S f) [.ref o, .int (zI cv), .int (zI pt), .int (zI k), .int (zI what)] (fun zv gv => zv = (zm_tangent S cv pt k what).1 ∧ gv = zMO cI cJ o (zm_tangent S cv pt k what).2 f ∧ mI (zm_tangent S cv pt k what).2 ∧ (∀ kk ii : Nat, ¬ (kk = 3 ∧ 3500 ≤ (ii : Int)) ∧ ¬ kk = 9 → (zm_tangent S cv pt k what).2 kk ii = S kk ii) ∧ True) := by
  refine zWalk.met (nL := 10) (ret := (some .int)) (cc := cX12_tangent) (by decide) rfl (Nat.le_of_ble_eq_true rfl) ?_
  intro pg en st mi ag bl mt cd ls CX hW hl
  have CX : zC pg st mi ag mt cd cX12_tangent 10 (some .int) RX12 wsX12_tangent := CX
  generalize hQ : MQ bl _ ag st 0 0 _ = Q
  have hX0 := CX.1
  have hB0 := CX.2.1
  have hl : lv_has ls 10 [(0, .ref o), (1, .int (zI cv)), (2, .int (zI pt)), (3, .int (zI k)), (4, .int (zI what))] := hl
  obtain ⟨H, eH⟩ : ∃ H, H = st.heap := ⟨_, rfl⟩
  obtain ⟨locs, eL⟩ : ∃ L : List Loc, L = [] := ⟨_, rfl⟩
  have hW : zW D (zT cI cJ cZ cP cS cM) L (zQ L sz) st (zMO cI cJ o S f) st.heap H locs := by rw [eH, eL]; exact hW
  suffices hgo : W pg l en ({ frames := 5, cells := 0, slots := 0, locals := 127 } : Room) st mi ag bl mt cd H locs 0 0 Q (F0 mi 0 ls []) by rw [eH, eL] at hgo; exact hgo
  clear eH eL
  have hpb := hI.s10
  refine lv_aload_n hX0 hB0 dX12_tangent_0 rfl (lv_at hl 0 rfl) ?_
  refine lv_iload_n hX0 hB0 dX12_tangent_1 rfl (lv_at hl 1 rfl) ?_
  refine z_calli hW (va_runV (C := RX12) (As := [.int (zI cv)]) (rest := []) CX.fix (zk_isCurve l o S cv hI (by constructor <;> omega)) (cwV 1 CX.fix.2.2.2.2 gX12_tangent_X12_isCurve rfl rfl rfl (by decide +kernel) ⟨Nat.le_of_ble_eq_true rfl, Nat.le_of_ble_eq_true rfl⟩) (z_preV CX hW (r := (RX12, TX12, 37)) zMO_0 rfl) rfl rfl hl.1 rfl (lv_room (Nat.le_of_ble_eq_true rfl)) dX12_tangent_2 ⟨Nat.zero_le _, Nat.zero_le _⟩) (fun z2 gn H locs hok hW => ?_)
  obtain ⟨hz2, hg, hq2⟩ := hok
  rw [hg] at hW
  clear hg
  have e2 : zm_isCurve S cv = z2 := hz2.symm
  clear hz2
  refine z_if_eq (tgt := 40) CX dX12_tangent_5 (by decide) (by constructor <;> omega) (fun c_5 => ?_) (fun c_5 => ?_)
  ·
    refine lv_iconst (v := zI (-1)) hX0 hB0 dX12_tangent_40 rfl ?_
    have hE : zm_tangent S cv pt k what = (-1, S) := by unfold zm_tangent; exact zlet_e e2 (zif_t c_5 rfl)
    have hFr : ∀ kk ii : Nat, ¬ (kk = 3 ∧ 3500 ≤ (ii : Int)) ∧ ¬ kk = 9 → S kk ii = S kk ii := fun kk ii hk => rfl
    rw [← hQ]
    exact z_iret (z := -1) CX hW (by rw [hE]; exact ⟨rfl, rfl, hI, hFr, trivial⟩) rfl dX12_tangent_41
  ·
    refine lv_aload_n hX0 hB0 dX12_tangent_8 rfl (lv_at hl 0 rfl) ?_
    refine lv_iload_n hX0 hB0 dX12_tangent_9 rfl (lv_at hl 2 rfl) ?_
    refine z_calli hW (va_runV (C := RX12) (As := [.int (zI pt)]) (rest := []) CX.fix (zk_isPoint l o S pt hI (by constructor <;> omega)) (cwV 1 CX.fix.2.2.2.2 gX12_tangent_X12_isPoint rfl rfl rfl (by decide +kernel) ⟨Nat.le_of_ble_eq_true rfl, Nat.le_of_ble_eq_true rfl⟩) (z_preV CX hW (r := (RX12, TX12, 37)) zMO_0 rfl) rfl rfl hl.1 rfl (lv_room (Nat.le_of_ble_eq_true rfl)) dX12_tangent_10 ⟨Nat.zero_le _, Nat.zero_le _⟩) (fun z10 gn H locs hok hW => ?_)
    obtain ⟨hz10, hg, hq10⟩ := hok
    rw [hg] at hW
    clear hg
    have e10 : zm_isPoint S pt = z10 := hz10.symm
    clear hz10
    refine z_if_eq (tgt := 40) CX dX12_tangent_13 (by decide) (by constructor <;> omega) (fun c_13 => ?_) (fun c_13 => ?_)
    ·
      refine lv_iconst (v := zI (-1)) hX0 hB0 dX12_tangent_40 rfl ?_
      have hE : zm_tangent S cv pt k what = (-1, S) := by unfold zm_tangent; exact zlet_e e2 (zif_f c_5 (zlet_e e10 (zif_t c_13 rfl)))
      have hFr : ∀ kk ii : Nat, ¬ (kk = 3 ∧ 3500 ≤ (ii : Int)) ∧ ¬ kk = 9 → S kk ii = S kk ii := fun kk ii hk => rfl
      rw [← hQ]
      exact z_iret (z := -1) CX hW (by rw [hE]; exact ⟨rfl, rfl, hI, hFr, trivial⟩) rfl dX12_tangent_41
    ·
      refine lv_iload_n hX0 hB0 dX12_tangent_16 rfl (lv_at hl 3 rfl) ?_
      refine lv_iconst (v := zI (-1)) hX0 hB0 dX12_tangent_17 rfl ?_
      refine z_icmp_lt (tgt := 40) CX dX12_tangent_18 (by decide) (by constructor <;> omega) (by constructor <;> omega) (fun c_18 => ?_) (fun c_18 => ?_)
      ·
        refine lv_iconst (v := zI (-1)) hX0 hB0 dX12_tangent_40 rfl ?_
        have hE : zm_tangent S cv pt k what = (-1, S) := by unfold zm_tangent; exact zlet_e e2 (zif_f c_5 (zlet_e e10 (zif_f c_13 (zif_t c_18 rfl))))
        have hFr : ∀ kk ii : Nat, ¬ (kk = 3 ∧ 3500 ≤ (ii : Int)) ∧ ¬ kk = 9 → S kk ii = S kk ii := fun kk ii hk => rfl
        rw [← hQ]
        exact z_iret (z := -1) CX hW (by rw [hE]; exact ⟨rfl, rfl, hI, hFr, trivial⟩) rfl dX12_tangent_41
      ·
        have d_18 : ¬ k < -1 := by omega
        refine lv_iload hX0 hB0 dX12_tangent_21 (lv_at hl 4 rfl) ?_
        refine lv_iconst (v := zI 0) hX0 hB0 dX12_tangent_23 rfl ?_
        refine lv_iconst (v := zI 1) hX0 hB0 dX12_tangent_24 rfl ?_
        refine z_calli hW (va_runS (As := [.int (zI what), .int (zI 0), .int (zI 1)]) (rest := []) CX.fix (zk_isIn l (f := zMO cI cJ o S f) what 0 1 (by constructor <;> omega) (by constructor <;> omega) (by constructor <;> omega)) (va_cwS 3 CX.fix.2.2.2.2 gX12_tangent_X12_isIn rfl rfl rfl (by decide +kernel) ⟨Nat.le_of_ble_eq_true rfl, Nat.le_of_ble_eq_true rfl⟩) (z_preS CX hW) rfl rfl hl.1 rfl (lv_room (Nat.le_of_ble_eq_true rfl)) dX12_tangent_25 ⟨Nat.zero_le _, Nat.zero_le _⟩) (fun z25 gn H locs hok hW => ?_)
        obtain ⟨hz25, hg, hq25⟩ := hok
        rw [hg] at hW
        clear hg
        have e25 : zm_isIn what 0 1 = z25 := hz25.symm
        clear hz25
        refine z_if_eq (tgt := 40) CX dX12_tangent_28 (by decide) (by constructor <;> omega) (fun c_28 => ?_) (fun c_28 => ?_)
        ·
          refine lv_iconst (v := zI (-1)) hX0 hB0 dX12_tangent_40 rfl ?_
          have hE : zm_tangent S cv pt k what = (-1, S) := by unfold zm_tangent; exact zlet_e e2 (zif_f c_5 (zlet_e e10 (zif_f c_13 (zif_f d_18 (zlet_e e25 (zif_t c_28 rfl))))))
          have hFr : ∀ kk ii : Nat, ¬ (kk = 3 ∧ 3500 ≤ (ii : Int)) ∧ ¬ kk = 9 → S kk ii = S kk ii := fun kk ii hk => rfl
          rw [← hQ]
          exact z_iret (z := -1) CX hW (by rw [hE]; exact ⟨rfl, rfl, hI, hFr, trivial⟩) rfl dX12_tangent_41
        ·
          refine lv_aload_n hX0 hB0 dX12_tangent_31 rfl (lv_at hl 0 rfl) ?_
          refine lv_iload_n hX0 hB0 dX12_tangent_32 rfl (lv_at hl 1 rfl) ?_
          refine lv_iload_n hX0 hB0 dX12_tangent_33 rfl (lv_at hl 2 rfl) ?_
          refine z_calli hW (va_runV (C := RX12) (As := [.int (zI cv), .int (zI pt)]) (rest := []) CX.fix (zk_valueAt l o S cv pt hI (by constructor <;> omega) (by constructor <;> omega)) (cwV 2 CX.fix.2.2.2.2 gX12_tangent_X12_valueAt rfl rfl rfl (by decide +kernel) ⟨Nat.le_of_ble_eq_true rfl, Nat.le_of_ble_eq_true rfl⟩) (z_preV CX hW (r := (RX12, TX12, 37)) zMO_0 rfl) rfl rfl hl.1 rfl (lv_room (Nat.le_of_ble_eq_true rfl)) dX12_tangent_34 ⟨Nat.zero_le _, Nat.zero_le _⟩) (fun z34 gn H locs hok hW => ?_)
          obtain ⟨hz34, hg, hq34⟩ := hok
          rw [hg] at hW
          clear hg
          have e34 : zm_valueAt S cv pt = z34 := hz34.symm
          clear hz34
          refine z_if_eq (tgt := 42) CX dX12_tangent_37 (by decide) (by constructor <;> omega) (fun c_37 => ?_) (fun c_37 => ?_)
          ·
            refine lv_aload_n hX0 hB0 dX12_tangent_42 rfl (lv_at hl 0 rfl) ?_
            refine lv_iload_n hX0 hB0 dX12_tangent_43 rfl (lv_at hl 1 rfl) ?_
            refine lv_iload_n hX0 hB0 dX12_tangent_44 rfl (lv_at hl 2 rfl) ?_
            refine z_calli hW (va_runV (C := RX12) (As := [.int (zI cv), .int (zI pt)]) (rest := []) CX.fix (zk_orderAt l o S cv pt hI (by constructor <;> omega) (by constructor <;> omega)) (cwV 2 CX.fix.2.2.2.2 gX12_tangent_X12_orderAt rfl rfl rfl (by decide +kernel) ⟨Nat.le_of_ble_eq_true rfl, Nat.le_of_ble_eq_true rfl⟩) (z_preV CX hW (r := (RX12, TX12, 37)) zMO_0 rfl) rfl rfl hl.1 rfl (lv_room (Nat.le_of_ble_eq_true rfl)) dX12_tangent_45 ⟨Nat.zero_le _, Nat.zero_le _⟩) (fun z45 gn H locs hok hW => ?_)
            obtain ⟨hz45, hg, hI45, hf45, hq45⟩ := hok
            obtain ⟨S45, hS45⟩ : ∃ q, q = (zm_orderAt S cv pt).2 := ⟨_, rfl⟩
            rw [← hS45] at hg hI45 hf45
            skip
            try rw [← hS45] at hq45
            rw [hg] at hW
            clear hg
            have e45 : zm_orderAt S cv pt = (z45, S45) := Prod.ext hz45.symm hS45.symm
            clear hz45 hS45
            refine lv_istore (lv' := [(5, .int (zI z45)), (0, .ref o), (1, .int (zI cv)), (2, .int (zI pt)), (3, .int (zI k)), (4, .int (zI what))]) hX0 hB0 dX12_tangent_48 hl (by decide) rfl (fun ls hl => ?_)
            refine lv_iconst (v := zI 0) hX0 hB0 dX12_tangent_50 rfl ?_
            refine lv_istore (lv' := [(6, .int (zI 0)), (5, .int (zI z45)), (0, .ref o), (1, .int (zI cv)), (2, .int (zI pt)), (3, .int (zI k)), (4, .int (zI what))]) hX0 hB0 dX12_tangent_51 hl (by decide) rfl (fun ls hl => ?_)
            refine lv_iconst (v := zI 0) hX0 hB0 dX12_tangent_53 rfl ?_
            refine lv_istore (lv' := [(7, .int (zI 0)), (6, .int (zI 0)), (5, .int (zI z45)), (0, .ref o), (1, .int (zI cv)), (2, .int (zI pt)), (3, .int (zI k)), (4, .int (zI what))]) hX0 hB0 dX12_tangent_54 hl (by decide) rfl (fun ls hl => ?_)
            refine lv_iconst (v := zI 0) hX0 hB0 dX12_tangent_56 rfl ?_
            refine lv_istore (lv' := [(8, .int (zI 0)), (7, .int (zI 0)), (6, .int (zI 0)), (5, .int (zI z45)), (0, .ref o), (1, .int (zI cv)), (2, .int (zI pt)), (3, .int (zI k)), (4, .int (zI what))]) hX0 hB0 dX12_tangent_57 hl (by decide) rfl (fun ls hl => ?_)
            have hXt59 : ∀ (n59 : Int) (a59 : Int) (w59 : Int) (S59 : zS2), (zm_tangent_W59 k what z45 ((34 : Nat)) 0 0 0 S45 = .inr (n59, a59, w59, S59) ∧ mI S59 ∧ (∀ kk ii : Nat, ¬ kk = 9 → S59 kk ii = S45 kk ii) ∧ 0 ≤ n59 ∧ n59 ≤ 40 ∧ 0 ≤ a59 ∧ a59 ≤ 300 ∧ 0 ≤ w59 ∧ w59 ≤ 32 ∧ (n59 ≤ w59 ∧ a59 ≤ 6 * w59)) → ∀ (H : Heap) (locs : List Loc) (ls : Array Slot), zW D (zT cI cJ cZ cP cS cM) L (zQ L sz) st (zMO cI cJ o S59 f) st.heap H locs → lv_has ls 10 [(6, .int (zI n59)), (7, .int (zI a59)), (8, .int (zI w59)), (5, .int (zI z45)), (0, .ref o), (1, .int (zI cv)), (2, .int (zI pt)), (3, .int (zI k)), (4, .int (zI what))] → W pg l en ({ frames := 5, cells := 0, slots := 0, locals := 127 } : Room) st mi ag bl mt cd H locs 0 0 Q (F0 mi 121 ls []) := by
              intro n59 a59 w59 S59 hinv H locs ls hW hl
              obtain ⟨e59, hI59, hf59, han59, hbn59, haa59, hba59, haw59, hbw59, hv59⟩ := hinv
              have hp59 := hI59.s10
              refine lv_iload_n hX0 hB0 dX12_tangent_121 rfl (lv_at hl 7 rfl) ?_
              refine lv_iconst (v := zI (-1)) hX0 hB0 dX12_tangent_122 rfl ?_
              refine z_icmp_eq (tgt := 130) CX dX12_tangent_123 (by decide) (by constructor <;> omega) (by constructor <;> omega) (fun c_123 => ?_) (fun c_123 => ?_)
              ·
                refine lv_iload hX0 hB0 dX12_tangent_130 (lv_at hl 8 rfl) ?_
                refine z_if_ne (tgt := 140) CX dX12_tangent_132 (by decide) (by constructor <;> omega) (fun c_132 => ?_) (fun c_132 => ?_)
                ·
                  refine lv_iload hX0 hB0 dX12_tangent_140 (lv_at hl 1 rfl) ?_
                  have hE : zm_tangent S cv pt k what = (a59, S59) := by unfold zm_tangent; exact zlet_e e2 (zif_f c_5 (zlet_e e10 (zif_f c_13 (zif_f d_18 (zlet_e e25 (zif_f c_28 (zlet_e e34 (zif_t c_37 (zlet_e e45 (zsum_r e59 (zif_t c_123 (zif_f c_132 rfl))))))))))))
                  have hFr : ∀ kk ii : Nat, ¬ (kk = 3 ∧ 3500 ≤ (ii : Int)) ∧ ¬ kk = 9 → S59 kk ii = S kk ii := fun kk ii hk => ((hf59 kk ii (by omega))).trans (hf45 kk ii (by omega))
                  rw [← hQ]
                  exact z_iret (z := a59) CX hW (by rw [hE]; exact ⟨rfl, rfl, hI59, hFr, trivial⟩) rfl dX12_tangent_142
                ·
                  refine lv_iload hX0 hB0 dX12_tangent_135 (lv_at hl 0 rfl) ?_
                  refine lv_goto (tgt := 142) hX0 hB0 dX12_tangent_137 (by decide) ?_
                  have hE : zm_tangent S cv pt k what = (n59, S59) := by unfold zm_tangent; exact zlet_e e2 (zif_f c_5 (zlet_e e10 (zif_f c_13 (zif_f d_18 (zlet_e e25 (zif_f c_28 (zlet_e e34 (zif_t c_37 (zlet_e e45 (zsum_r e59 (zif_t c_123 (zif_t c_132 rfl))))))))))))
                  have hFr : ∀ kk ii : Nat, ¬ (kk = 3 ∧ 3500 ≤ (ii : Int)) ∧ ¬ kk = 9 → S59 kk ii = S kk ii := fun kk ii hk => ((hf59 kk ii (by omega))).trans (hf45 kk ii (by omega))
                  rw [← hQ]
                  exact z_iret (z := n59) CX hW (by rw [hE]; exact ⟨rfl, rfl, hI59, hFr, trivial⟩) rfl dX12_tangent_142
              ·
                refine lv_iconst (v := zI (-1)) hX0 hB0 dX12_tangent_126 rfl ?_
                refine lv_goto (tgt := 142) hX0 hB0 dX12_tangent_127 (by decide) ?_
                have hE : zm_tangent S cv pt k what = (-1, S59) := by unfold zm_tangent; exact zlet_e e2 (zif_f c_5 (zlet_e e10 (zif_f c_13 (zif_f d_18 (zlet_e e25 (zif_f c_28 (zlet_e e34 (zif_t c_37 (zlet_e e45 (zsum_r e59 (zif_f c_123 rfl)))))))))))
                have hFr : ∀ kk ii : Nat, ¬ (kk = 3 ∧ 3500 ≤ (ii : Int)) ∧ ¬ kk = 9 → S59 kk ii = S kk ii := fun kk ii hk => ((hf59 kk ii (by omega))).trans (hf45 kk ii (by omega))
                rw [← hQ]
                exact z_iret (z := -1) CX hW (by rw [hE]; exact ⟨rfl, rfl, hI59, hFr, trivial⟩) rfl dX12_tangent_142
            have hL59 : ∀ (fu : Nat) (n59 : Int) (a59 : Int) (w59 : Int) (S59 : zS2), (zm_tangent_W59 k what z45 ((34 : Nat)) 0 0 0 S45 = zm_tangent_W59 k what z45 fu n59 a59 w59 S59 ∧ mI S59 ∧ (∀ kk ii : Nat, ¬ kk = 9 → S59 kk ii = S45 kk ii) ∧ 0 ≤ n59 ∧ n59 ≤ 40 ∧ 0 ≤ a59 ∧ a59 ≤ 300 ∧ 0 ≤ w59 ∧ w59 ≤ 32 ∧ (n59 ≤ w59 ∧ a59 ≤ 6 * w59)) → (33 - w59).toNat < fu → ∀ (H : Heap) (locs : List Loc) (ls : Array Slot), zW D (zT cI cJ cZ cP cS cM) L (zQ L sz) st (zMO cI cJ o S59 f) st.heap H locs → lv_has ls 10 [(6, .int (zI n59)), (7, .int (zI a59)), (8, .int (zI w59)), (5, .int (zI z45)), (0, .ref o), (1, .int (zI cv)), (2, .int (zI pt)), (3, .int (zI k)), (4, .int (zI what))] → W pg l en ({ frames := 5, cells := 0, slots := 0, locals := 127 } : Room) st mi ag bl mt cd H locs 0 0 Q (F0 mi 59 ls []) := by
              intro fu
              induction fu with
              | zero => intro n59 a59 w59 S59 _ hfu; exact absurd hfu (Nat.not_lt_zero _)
              | succ fu ih59 =>
                intro n59 a59 w59 S59 hinv hfu59 H locs ls hW hl
                obtain ⟨hz59, hI59, hf59, han59, hbn59, haa59, hba59, haw59, hbw59, hv59⟩ := hinv
                have hp59 := hI59.s10
                have hpr := hI59.s10
                refine lv_iload hX0 hB0 dX12_tangent_59 (lv_at hl 2 rfl) ?_
                refine lv_aload_n hX0 hB0 dX12_tangent_61 rfl (lv_at hl 4 rfl) ?_
                refine z_get (Cn := RX12) (T := TX12) (N := 37) CX hW (v := .int (zI (S59 0 10))) zMO_0 rfl (fun w h => List.mem_cons_of_mem _ (List.mem_append_right _ h)) 10 (by decide) (List.mem_of_getElem? (i := 1) rfl) rfl rfl dX12_tangent_62 ?_
                have hr62 := hI59.s10
                refine z_icmp_gt (tgt := 121) CX dX12_tangent_65 (by decide) (by constructor <;> omega) (by constructor <;> omega) (fun c_65 => ?_) (fun c_65 => ?_)
                ·
                  exact hXt59 n59 a59 w59 S59 ⟨hz59.trans (by rw [zm_tangent_W59]; exact zif_t c_65 rfl), hI59, fun kk ii hk => (hf59 kk ii (by omega)), by omega, by omega, by omega, by omega, by omega, by omega, ⟨by omega, by omega⟩⟩ H locs ls hW (lv_sub hl [0, 1, 2, 3, 4, 5, 6, 7, 8] rfl)
                ·
                  have d_65 : ¬ S59 0 10 < w59 := by omega
                  refine lv_aload_n hX0 hB0 dX12_tangent_68 rfl (lv_at hl 4 rfl) ?_
                  refine lv_iload hX0 hB0 dX12_tangent_69 (lv_at hl 3 rfl) ?_
                  refine lv_iload hX0 hB0 dX12_tangent_71 (lv_at hl 2 rfl) ?_
                  refine z_calli hW (va_runV (C := RX12) (As := [.int (zI z45), .int (zI w59)]) (rest := []) CX.fix (zk_oftenTangent l o S59 z45 w59 hI59 (by constructor <;> omega) (by constructor <;> omega)) (cwV 2 CX.fix.2.2.2.2 gX12_tangent_X12_oftenTangent rfl rfl rfl (by decide +kernel) ⟨Nat.le_of_ble_eq_true rfl, Nat.le_of_ble_eq_true rfl⟩) (z_preV CX hW (r := (RX12, TX12, 37)) zMO_0 rfl) rfl rfl hl.1 rfl (lv_room (Nat.le_of_ble_eq_true rfl)) dX12_tangent_73 ⟨Nat.zero_le _, Nat.zero_le _⟩) (fun z73 gn H locs hok hW => ?_)
                  obtain ⟨hz73, hg, hI73, hf73, hq73⟩ := hok
                  obtain ⟨S73, hS73⟩ : ∃ q, q = (zm_oftenTangent S59 z45 w59).2 := ⟨_, rfl⟩
                  rw [← hS73] at hg hI73 hf73
                  skip
                  try rw [← hS73] at hq73
                  rw [hg] at hW
                  clear hg
                  have e73 : zm_oftenTangent S59 z45 w59 = (z73, S73) := Prod.ext hz73.symm hS73.symm
                  clear hz73 hS73
                  refine lv_istore (lv' := [(9, .int (zI z73)), (6, .int (zI n59)), (7, .int (zI a59)), (8, .int (zI w59)), (5, .int (zI z45)), (0, .ref o), (1, .int (zI cv)), (2, .int (zI pt)), (3, .int (zI k)), (4, .int (zI what))]) hX0 hB0 dX12_tangent_76 hl (by decide) rfl (fun ls hl => ?_)
                  refine lv_iload hX0 hB0 dX12_tangent_78 (lv_at hl 0 rfl) ?_
                  refine z_if_ne (tgt := 86) CX dX12_tangent_80 (by decide) (by constructor <;> omega) (fun c_80 => ?_) (fun c_80 => ?_)
                  ·
                    refine lv_iload hX0 hB0 dX12_tangent_86 (lv_at hl 1 rfl) ?_
                    refine lv_iload_n hX0 hB0 dX12_tangent_88 rfl (lv_at hl 8 rfl) ?_
                    refine z_icmp_ne (tgt := 105) CX dX12_tangent_89 (by decide) (by constructor <;> omega) (by constructor <;> omega) (fun c_89 => ?_) (fun c_89 => ?_)
                    ·
                      refine lv_iinc (v := zI (n59 + 1)) (lv' := [(6, .int (zI (n59 + 1))), (9, .int (zI z73)), (7, .int (zI a59)), (8, .int (zI w59)), (5, .int (zI z45)), (0, .ref o), (1, .int (zI cv)), (2, .int (zI pt)), (3, .int (zI k)), (4, .int (zI what))]) hX0 hB0 dX12_tangent_105 hl (k := 1) rfl (zI_add _ _) (by decide) rfl (fun ls hl => ?_)
                      refine lv_iload hX0 hB0 dX12_tangent_108 (lv_at hl 2 rfl) ?_
                      refine lv_iload hX0 hB0 dX12_tangent_110 (lv_at hl 1 rfl) ?_
                      refine z_iadd (z := a59 + z73) CX dX12_tangent_112 rfl ?_
                      refine lv_istore (lv' := [(7, .int (zI (a59 + z73))), (6, .int (zI (n59 + 1))), (9, .int (zI z73)), (8, .int (zI w59)), (5, .int (zI z45)), (0, .ref o), (1, .int (zI cv)), (2, .int (zI pt)), (3, .int (zI k)), (4, .int (zI what))]) hX0 hB0 dX12_tangent_113 hl (by decide) rfl (fun ls hl => ?_)
                      refine lv_iinc (v := zI (w59 + 1)) (lv' := [(8, .int (zI (w59 + 1))), (7, .int (zI (a59 + z73))), (6, .int (zI (n59 + 1))), (9, .int (zI z73)), (5, .int (zI z45)), (0, .ref o), (1, .int (zI cv)), (2, .int (zI pt)), (3, .int (zI k)), (4, .int (zI what))]) hX0 hB0 dX12_tangent_115 hl (k := 3) rfl (zI_add _ _) (by decide) rfl (fun ls hl => ?_)
                      refine lv_goto (tgt := 59) hX0 hB0 dX12_tangent_118 (by decide) ?_
                      exact ih59 (n59 + 1) (a59 + z73) (w59 + 1) S73 ⟨hz59.trans (by rw [zm_tangent_W59]; exact zif_f d_65 (zlet_e e73 (zif_f c_80 (zif_f c_89 rfl)))), hI73, fun kk ii hk => ((hf73 kk ii (by omega))).trans (hf59 kk ii (by omega)), by omega, by omega, by omega, by omega, by omega, by omega, ⟨by omega, by omega⟩⟩ (by omega) H locs ls hW (lv_sub hl [2, 1, 0, 4, 5, 6, 7, 8, 9] rfl)
                    ·
                      refine lv_iload hX0 hB0 dX12_tangent_92 (lv_at hl 9 rfl) ?_
                      refine z_if_ne (tgt := 102) CX dX12_tangent_94 (by decide) (by constructor <;> omega) (fun c_94 => ?_) (fun c_94 => ?_)
                      ·
                        refine lv_iload hX0 hB0 dX12_tangent_102 (lv_at hl 0 rfl) ?_
                        have hE : zm_tangent S cv pt k what = (z73, S73) := by unfold zm_tangent; exact zlet_e e2 (zif_f c_5 (zlet_e e10 (zif_f c_13 (zif_f d_18 (zlet_e e25 (zif_f c_28 (zlet_e e34 (zif_t c_37 (zlet_e e45 (zsum_l (hz59.trans (by rw [zm_tangent_W59]; exact zif_f d_65 (zlet_e e73 (zif_f c_80 (zif_t c_89 (zif_f c_94 rfl)))))) rfl))))))))))
                        have hFr : ∀ kk ii : Nat, ¬ (kk = 3 ∧ 3500 ≤ (ii : Int)) ∧ ¬ kk = 9 → S73 kk ii = S kk ii := fun kk ii hk => (((hf73 kk ii (by omega))).trans (hf59 kk ii (by omega))).trans (hf45 kk ii (by omega))
                        rw [← hQ]
                        exact z_iret (z := z73) CX hW (by rw [hE]; exact ⟨rfl, rfl, hI73, hFr, trivial⟩) rfl dX12_tangent_104
                      ·
                        refine lv_iload hX0 hB0 dX12_tangent_97 (lv_at hl 3 rfl) ?_
                        refine lv_goto (tgt := 104) hX0 hB0 dX12_tangent_99 (by decide) ?_
                        have hE : zm_tangent S cv pt k what = (w59, S73) := by unfold zm_tangent; exact zlet_e e2 (zif_f c_5 (zlet_e e10 (zif_f c_13 (zif_f d_18 (zlet_e e25 (zif_f c_28 (zlet_e e34 (zif_t c_37 (zlet_e e45 (zsum_l (hz59.trans (by rw [zm_tangent_W59]; exact zif_f d_65 (zlet_e e73 (zif_f c_80 (zif_t c_89 (zif_t c_94 rfl)))))) rfl))))))))))
                        have hFr : ∀ kk ii : Nat, ¬ (kk = 3 ∧ 3500 ≤ (ii : Int)) ∧ ¬ kk = 9 → S73 kk ii = S kk ii := fun kk ii hk => (((hf73 kk ii (by omega))).trans (hf59 kk ii (by omega))).trans (hf45 kk ii (by omega))
                        rw [← hQ]
                        exact z_iret (z := w59) CX hW (by rw [hE]; exact ⟨rfl, rfl, hI73, hFr, trivial⟩) rfl dX12_tangent_104
                  ·
                    refine lv_goto (tgt := 115) hX0 hB0 dX12_tangent_83 (by decide) ?_
                    refine lv_iinc (v := zI (w59 + 1)) (lv' := [(8, .int (zI (w59 + 1))), (9, .int (zI z73)), (6, .int (zI n59)), (7, .int (zI a59)), (5, .int (zI z45)), (0, .ref o), (1, .int (zI cv)), (2, .int (zI pt)), (3, .int (zI k)), (4, .int (zI what))]) hX0 hB0 dX12_tangent_115 hl (k := 3) rfl (zI_add _ _) (by decide) rfl (fun ls hl => ?_)
                    refine lv_goto (tgt := 59) hX0 hB0 dX12_tangent_118 (by decide) ?_
                    exact ih59 n59 a59 (w59 + 1) S73 ⟨hz59.trans (by rw [zm_tangent_W59]; exact zif_f d_65 (zlet_e e73 (zif_t c_80 rfl))), hI73, fun kk ii hk => ((hf73 kk ii (by omega))).trans (hf59 kk ii (by omega)), by omega, by omega, by omega, by omega, by omega, by omega, ⟨by omega, by omega⟩⟩ (by omega) H locs ls hW (lv_sub hl [2, 3, 0, 4, 5, 6, 7, 8, 9] rfl)
            exact hL59 _ 0 0 0 S45 ⟨rfl, hI45, fun kk ii hk => rfl, by omega, by omega, by omega, by omega, by omega, by omega, ⟨by omega, by omega⟩⟩ (by omega) H locs ls hW (lv_sub hl [2, 1, 0, 3, 4, 5, 6, 7, 8] rfl)
          ·
            refine lv_iconst (v := zI (-1)) hX0 hB0 dX12_tangent_40 rfl ?_
            have hE : zm_tangent S cv pt k what = (-1, S) := by unfold zm_tangent; exact zlet_e e2 (zif_f c_5 (zlet_e e10 (zif_f c_13 (zif_f d_18 (zlet_e e25 (zif_f c_28 (zlet_e e34 (zif_f c_37 rfl))))))))
            have hFr : ∀ kk ii : Nat, ¬ (kk = 3 ∧ 3500 ≤ (ii : Int)) ∧ ¬ kk = 9 → S kk ii = S kk ii := fun kk ii hk => rfl
            rw [← hQ]
            exact z_iret (z := -1) CX hW (by rw [hE]; exact ⟨rfl, rfl, hI, hFr, trivial⟩) rfl dX12_tangent_41
def zm_bendHere_J21 (z16 : Int) : Int := (if z16 = 0 then 0 else 1)
def zm_bendHere_J31 (S : zS2) (z6 : Int) (z16 : Int) : Int := (if z16 = 0 then 1 else zlet (zm_inverse S z16) (fun z48 => zlet (zm_modulo S (((S 0 10) - z6) * z48)) (fun z53 => z53)))
def zm_bendHere_L73 (S : zS2) (a21j : Int) (b31j : Int) (n61 : Int) : Int → Int → Int := fun i73 s73 => (fun (s73 : Int) => zlet (zm_cell S 141 i73 (n61 - i73)) (fun z93 => zlet (zm_power S a21j i73) (fun z101 => zlet (zm_power S b31j (n61 - i73)) (fun z120 => (s73 + (Int.tmod ((Int.tmod (z93 * z101) (S 0 10)) * z120) (S 0 10))))))) s73
def zm_bendHere_W61 (S : zS2) (a21j : Int) (b31j : Int) : Nat → Int → (Int) ⊕ Int
  | 0, n61 => .inr n61
  | fu61 + 1, n61 => (if 4 < n61 then .inr n61 else zlet (zfor (zm_bendHere_L73 S a21j b31j n61) 0 0 (n61 + 1 - 0).toNat) (fun s73 => (if Int.tmod s73 (S 0 10) = 0 then zm_bendHere_W61 S a21j b31j fu61 (n61 + 1) else .inl (n61))))
def zm_bendHere (S : zS2)  : Int := zlet (zm_cell S 141 1 0) (fun z6 => zlet (zm_cell S 141 0 1) (fun z16 => zlet (zm_bendHere_J21 z16) (fun a21j => zlet (zm_bendHere_J31 S z6 z16) (fun b31j => zsum (zm_bendHere_W61 S a21j b31j ((6 : Nat)) 1) (fun r61 => r61) (fun n61 => -2)))))
set_option maxRecDepth 100000 in
set_option maxHeartbeats 4000000 in
theorem zk_bendHere (l : Launch) {D : va_G} {cI cJ cZ cP cS cM : ClassId} {L : List Nat} {sz : Nat} {f : Nat → va_E} (o : Nat) (S : zS2)  (hI : mI S)  : zMi l yX12_bendHere wsX12_bendHere 3 70 D (zT cI cJ cZ cP cS cM) L sz (zMO cI cJ o S f) [.ref o] (fun zv gv => zv = zm_bendHere S ∧ gv = zMO cI cJ o S f ∧ -2 ≤ zv ∧ zv ≤ 4) := by
  refine zWalk.met (nL := 9) (ret := (some .int)) (cc := cX12_bendHere) (by decide) rfl (Nat.le_of_ble_eq_true rfl) ?_
  intro pg en st mi ag bl mt cd ls CX hW hl
  have CX : zC pg st mi ag mt cd cX12_bendHere 9 (some .int) RX12 wsX12_bendHere := CX
  generalize hQ : MQ bl _ ag st 0 0 _ = Q
  have hX0 := CX.1
  have hB0 := CX.2.1
  have hl : lv_has ls 9 [(0, .ref o)] := hl
  obtain ⟨H, eH⟩ : ∃ H, H = st.heap := ⟨_, rfl⟩
  obtain ⟨locs, eL⟩ : ∃ L : List Loc, L = [] := ⟨_, rfl⟩
  have hW : zW D (zT cI cJ cZ cP cS cM) L (zQ L sz) st (zMO cI cJ o S f) st.heap H locs := by rw [eH, eL]; exact hW
  suffices hgo : W pg l en ({ frames := 3, cells := 0, slots := 0, locals := 70 } : Room) st mi ag bl mt cd H locs 0 0 Q (F0 mi 0 ls []) by rw [eH, eL] at hgo; exact hgo
  clear eH eL
  have hpb := hI.s10
  refine lv_aload_n hX0 hB0 dX12_bendHere_0 rfl (lv_at hl 0 rfl) ?_
  refine lv_sipush (v := zI 141) hX0 hB0 dX12_bendHere_1 (by decide) ?_
  refine lv_iconst (v := zI 1) hX0 hB0 dX12_bendHere_4 rfl ?_
  refine lv_iconst (v := zI 0) hX0 hB0 dX12_bendHere_5 rfl ?_
  refine z_calli hW (va_runV (C := RX12) (As := [.int (zI 141), .int (zI 1), .int (zI 0)]) (rest := []) CX.fix (zk_cell l o S 141 1 0 hI (by constructor <;> omega) (by constructor <;> omega) (by constructor <;> omega)) (cwV 3 CX.fix.2.2.2.2 gX12_bendHere_X12_cell rfl rfl rfl (by decide +kernel) ⟨Nat.le_of_ble_eq_true rfl, Nat.le_of_ble_eq_true rfl⟩) (z_preV CX hW (r := (RX12, TX12, 37)) zMO_0 rfl) rfl rfl hl.1 rfl (lv_room (Nat.le_of_ble_eq_true rfl)) dX12_bendHere_6 ⟨Nat.zero_le _, Nat.zero_le _⟩) (fun z6 gn H locs hok hW => ?_)
  obtain ⟨hz6, hg, hq6⟩ := hok
  rw [hg] at hW
  clear hg
  have e6 : zm_cell S 141 1 0 = z6 := hz6.symm
  clear hz6
  refine lv_istore_n (lv' := [(1, .int (zI z6)), (0, .ref o)]) hX0 hB0 dX12_bendHere_9 rfl hl (by decide) rfl (fun ls hl => ?_)
  refine lv_aload_n hX0 hB0 dX12_bendHere_10 rfl (lv_at hl 1 rfl) ?_
  refine lv_sipush (v := zI 141) hX0 hB0 dX12_bendHere_11 (by decide) ?_
  refine lv_iconst (v := zI 0) hX0 hB0 dX12_bendHere_14 rfl ?_
  refine lv_iconst (v := zI 1) hX0 hB0 dX12_bendHere_15 rfl ?_
  refine z_calli hW (va_runV (C := RX12) (As := [.int (zI 141), .int (zI 0), .int (zI 1)]) (rest := []) CX.fix (zk_cell l o S 141 0 1 hI (by constructor <;> omega) (by constructor <;> omega) (by constructor <;> omega)) (cwV 3 CX.fix.2.2.2.2 gX12_bendHere_X12_cell rfl rfl rfl (by decide +kernel) ⟨Nat.le_of_ble_eq_true rfl, Nat.le_of_ble_eq_true rfl⟩) (z_preV CX hW (r := (RX12, TX12, 37)) zMO_0 rfl) rfl rfl hl.1 rfl (lv_room (Nat.le_of_ble_eq_true rfl)) dX12_bendHere_16 ⟨Nat.zero_le _, Nat.zero_le _⟩) (fun z16 gn H locs hok hW => ?_)
  obtain ⟨hz16, hg, hq16⟩ := hok
  rw [hg] at hW
  clear hg
  have e16 : zm_cell S 141 0 1 = z16 := hz16.symm
  clear hz16
  refine lv_istore_n (lv' := [(2, .int (zI z16)), (1, .int (zI z6)), (0, .ref o)]) hX0 hB0 dX12_bendHere_19 rfl hl (by decide) rfl (fun ls hl => ?_)
  refine lv_iload_n hX0 hB0 dX12_bendHere_20 rfl (lv_at hl 0 rfl) ?_
  have hJ21 : ∀ (a21j : Int), (zm_bendHere_J21 z16 = a21j ∧ 0 ≤ a21j ∧ a21j ≤ 1) → ∀ (H : Heap) (locs : List Loc) (ls : Array Slot), zW D (zT cI cJ cZ cP cS cM) L (zQ L sz) st (zMO cI cJ o S f) st.heap H locs → lv_has ls 9 [(2, .int (zI z16)), (1, .int (zI z6)), (0, .ref o)] → W pg l en ({ frames := 3, cells := 0, slots := 0, locals := 70 } : Room) st mi ag bl mt cd H locs 0 0 Q (F0 mi 29 ls [.int (zI a21j)]) := by
    intro a21j hinv H locs ls hW hl
    obtain ⟨e21j, haa21j, hba21j⟩ := hinv
    refine lv_istore_n (lv' := [(3, .int (zI a21j)), (2, .int (zI z16)), (1, .int (zI z6)), (0, .ref o)]) hX0 hB0 dX12_bendHere_29 rfl hl (by decide) rfl (fun ls hl => ?_)
    refine lv_iload_n hX0 hB0 dX12_bendHere_30 rfl (lv_at hl 1 rfl) ?_
    have hJ31 : ∀ (b31j : Int), (zm_bendHere_J31 S z6 z16 = b31j ∧ 0 ≤ b31j ∧ b31j ≤ 30) → ∀ (H : Heap) (locs : List Loc) (ls : Array Slot), zW D (zT cI cJ cZ cP cS cM) L (zQ L sz) st (zMO cI cJ o S f) st.heap H locs → lv_has ls 9 [(3, .int (zI a21j)), (2, .int (zI z16)), (1, .int (zI z6)), (0, .ref o)] → W pg l en ({ frames := 3, cells := 0, slots := 0, locals := 70 } : Room) st mi ag bl mt cd H locs 0 0 Q (F0 mi 56 ls [.int (zI b31j)]) := by
      intro b31j hinv H locs ls hW hl
      obtain ⟨e31j, hab31j, hbb31j⟩ := hinv
      refine lv_istore (lv' := [(4, .int (zI b31j)), (3, .int (zI a21j)), (2, .int (zI z16)), (1, .int (zI z6)), (0, .ref o)]) hX0 hB0 dX12_bendHere_56 hl (by decide) rfl (fun ls hl => ?_)
      refine lv_iconst (v := zI 1) hX0 hB0 dX12_bendHere_58 rfl ?_
      refine lv_istore (lv' := [(5, .int (zI 1)), (4, .int (zI b31j)), (3, .int (zI a21j)), (2, .int (zI z16)), (1, .int (zI z6)), (0, .ref o)]) hX0 hB0 dX12_bendHere_59 hl (by decide) rfl (fun ls hl => ?_)
      have hXt61 : ∀ (n61 : Int), (zm_bendHere_W61 S a21j b31j ((6 : Nat)) 1 = .inr n61 ∧ 1 ≤ n61 ∧ n61 ≤ 5) → ∀ (H : Heap) (locs : List Loc) (ls : Array Slot), zW D (zT cI cJ cZ cP cS cM) L (zQ L sz) st (zMO cI cJ o S f) st.heap H locs → lv_has ls 9 [(5, .int (zI n61)), (4, .int (zI b31j)), (3, .int (zI a21j)), (2, .int (zI z16)), (1, .int (zI z6)), (0, .ref o)] → W pg l en ({ frames := 3, cells := 0, slots := 0, locals := 70 } : Room) st mi ag bl mt cd H locs 0 0 Q (F0 mi 162 ls []) := by
        intro n61 hinv H locs ls hW hl
        obtain ⟨e61, han61, hbn61⟩ := hinv
        refine lv_bipush (v := zI (-2)) hX0 hB0 dX12_bendHere_162 (by decide) ?_
        have hE : zm_bendHere S = -2 := by unfold zm_bendHere; exact zlet_e e6 (zlet_e e16 (zlet_e e21j (zlet_e e31j (zsum_r e61 rfl))))
        rw [← hQ]
        exact z_iret (z := -2) CX hW (by rw [hE]; exact ⟨rfl, rfl, (show -2 ≤ (-2 : Int) ∧ (-2 : Int) ≤ 4 from by omega)⟩) rfl dX12_bendHere_164
      have hL61 : ∀ (fu : Nat) (n61 : Int), (zm_bendHere_W61 S a21j b31j ((6 : Nat)) 1 = zm_bendHere_W61 S a21j b31j fu n61 ∧ 1 ≤ n61 ∧ n61 ≤ 5) → (5 - n61).toNat < fu → ∀ (H : Heap) (locs : List Loc) (ls : Array Slot), zW D (zT cI cJ cZ cP cS cM) L (zQ L sz) st (zMO cI cJ o S f) st.heap H locs → lv_has ls 9 [(5, .int (zI n61)), (4, .int (zI b31j)), (3, .int (zI a21j)), (2, .int (zI z16)), (1, .int (zI z6)), (0, .ref o)] → W pg l en ({ frames := 3, cells := 0, slots := 0, locals := 70 } : Room) st mi ag bl mt cd H locs 0 0 Q (F0 mi 61 ls []) := by
        intro fu
        induction fu with
        | zero => intro n61 _ hfu; exact absurd hfu (Nat.not_lt_zero _)
        | succ fu ih61 =>
          intro n61 hinv hfu61 H locs ls hW hl
          obtain ⟨hz61, han61, hbn61⟩ := hinv
          refine lv_iload hX0 hB0 dX12_bendHere_61 (lv_at hl 0 rfl) ?_
          refine lv_iconst (v := zI 4) hX0 hB0 dX12_bendHere_63 rfl ?_
          refine z_icmp_gt (tgt := 162) CX dX12_bendHere_64 (by decide) (by constructor <;> omega) (by constructor <;> omega) (fun c_64 => ?_) (fun c_64 => ?_)
          ·
            exact hXt61 n61 ⟨hz61.trans (by rw [zm_bendHere_W61]; exact zif_t c_64 rfl), by omega, by omega⟩ H locs ls hW (lv_sub hl [0, 1, 2, 3, 4, 5] rfl)
          ·
            have d_64 : ¬ 4 < n61 := by omega
            refine lv_lconst (v := zL 0) hX0 hB0 dX12_bendHere_67 rfl ?_
            refine lv_lstore (lv' := [(6, .long (zL 0)), (5, .int (zI n61)), (4, .int (zI b31j)), (3, .int (zI a21j)), (2, .int (zI z16)), (1, .int (zI z6)), (0, .ref o)]) hX0 hB0 dX12_bendHere_68 hl (by decide) rfl (fun ls hl => ?_)
            refine lv_iconst (v := zI 0) hX0 hB0 dX12_bendHere_70 rfl ?_
            refine lv_istore (lv' := [(8, .int (zI 0)), (6, .long (zL 0)), (5, .int (zI n61)), (4, .int (zI b31j)), (3, .int (zI a21j)), (2, .int (zI z16)), (1, .int (zI z6)), (0, .ref o)]) hX0 hB0 dX12_bendHere_71 hl (by decide) rfl (fun ls hl => ?_)
            have hL73 : ∀ (fu : Nat) (i73 : Int) (s73 : Int), ((0 ≤ i73 ∧ i73 ≤ n61 + 1) ∧ zfor (zm_bendHere_L73 S a21j b31j n61) 0 0 (i73 - 0).toNat = s73 ∧ (0 ≤ s73 ∧ s73 ≤ 30 * i73)) → (n61 + 1 - i73).toNat < fu → ∀ (H : Heap) (locs : List Loc) (ls : Array Slot), zW D (zT cI cJ cZ cP cS cM) L (zQ L sz) st (zMO cI cJ o S f) st.heap H locs → lv_has ls 9 [(8, .int (zI i73)), (6, .long (zL s73)), (5, .int (zI n61)), (4, .int (zI b31j)), (3, .int (zI a21j)), (2, .int (zI z16)), (1, .int (zI z6)), (0, .ref o)] → W pg l en ({ frames := 3, cells := 0, slots := 0, locals := 70 } : Room) st mi ag bl mt cd H locs 0 0 Q (F0 mi 73 ls []) := by
              intro fu
              induction fu with
              | zero => intro i73 s73 _ hfu; exact absurd hfu (Nat.not_lt_zero _)
              | succ fu ih73 =>
                intro i73 s73 hinv hfu73 H locs ls hW hl
                obtain ⟨⟨hlo73, hhi73⟩, hz73, hv73⟩ := hinv
                refine lv_iload hX0 hB0 dX12_bendHere_73 (lv_at hl 0 rfl) ?_
                refine lv_iload hX0 hB0 dX12_bendHere_75 (lv_at hl 2 rfl) ?_
                refine z_icmp_gt (tgt := 140) CX dX12_bendHere_77 (by decide) (by constructor <;> omega) (by constructor <;> omega) (fun c_77 => ?_) (fun c_77 => ?_)
                ·
                  have e73 : zfor (zm_bendHere_L73 S a21j b31j n61) 0 0 (n61 + 1 - 0).toNat = s73 := by rw [show (n61 + 1 - 0).toNat = (i73 - 0).toNat by omega]; exact hz73
                  refine lv_lload hX0 hB0 dX12_bendHere_140 (lv_at hl 1 rfl) ?_
                  refine lv_aload_n hX0 hB0 dX12_bendHere_142 rfl (lv_at hl 7 rfl) ?_
                  refine z_get (Cn := RX12) (T := TX12) (N := 37) CX hW (v := .int (zI (S 0 10))) zMO_0 rfl (fun w h => List.mem_cons_of_mem _ (List.mem_append_right _ h)) 10 (by decide) (List.mem_of_getElem? (i := 1) rfl) rfl rfl dX12_bendHere_143 ?_
                  have hr143 := hI.s10
                  refine z_i2l CX dX12_bendHere_146 (by constructor <;> omega) ?_
                  refine z_lrem (z := Int.tmod s73 (S 0 10)) CX dX12_bendHere_147 (by constructor <;> omega) (by constructor <;> omega) rfl ?_
                  have ht147 := ztm (n := s73) (p := S 0 10) (by omega)
                  refine lv_lconst (v := zL 0) hX0 hB0 dX12_bendHere_148 rfl ?_
                  refine z_lcmp CX dX12_bendHere_149 (by constructor <;> omega) (by constructor <;> omega) ?_
                  have hcm149 := zcmp_rng (Int.tmod s73 (S 0 10)) 0
                  refine z_if_eq (tgt := 156) CX dX12_bendHere_150 (by decide) (by constructor <;> omega) (fun c_150 => ?_) (fun c_150 => ?_)
                  ·
                    simp only [zcmp_lt, zcmp_le, zcmp_gt, zcmp_ge, zcmp_eq] at c_150
                    refine lv_iinc (v := zI (n61 + 1)) (lv' := [(5, .int (zI (n61 + 1))), (8, .int (zI i73)), (6, .long (zL s73)), (4, .int (zI b31j)), (3, .int (zI a21j)), (2, .int (zI z16)), (1, .int (zI z6)), (0, .ref o)]) hX0 hB0 dX12_bendHere_156 hl (k := 2) rfl (zI_add _ _) (by decide) rfl (fun ls hl => ?_)
                    refine lv_goto (tgt := 61) hX0 hB0 dX12_bendHere_159 (by decide) ?_
                    exact ih61 (n61 + 1) ⟨hz61.trans (by rw [zm_bendHere_W61]; exact zif_f d_64 (zlet_e e73 (zif_t c_150 rfl))), by omega, by omega⟩ (by omega) H locs ls hW (lv_sub hl [0, 3, 4, 5, 6, 7] rfl)
                  ·
                    simp only [zcmp_lt, zcmp_le, zcmp_gt, zcmp_ge, zcmp_eq] at c_150
                    refine lv_iload hX0 hB0 dX12_bendHere_153 (lv_at hl 2 rfl) ?_
                    have hE : zm_bendHere S = n61 := by unfold zm_bendHere; exact zlet_e e6 (zlet_e e16 (zlet_e e21j (zlet_e e31j (zsum_l (hz61.trans (by rw [zm_bendHere_W61]; exact zif_f d_64 (zlet_e e73 (zif_f c_150 rfl)))) rfl))))
                    rw [← hQ]
                    exact z_iret (z := n61) CX hW (by rw [hE]; exact ⟨rfl, rfl, (show -2 ≤ n61 ∧ n61 ≤ 4 from by omega)⟩) rfl dX12_bendHere_155
                ·
                  refine lv_lload hX0 hB0 dX12_bendHere_80 (lv_at hl 1 rfl) ?_
                  refine lv_aload_n hX0 hB0 dX12_bendHere_82 rfl (lv_at hl 7 rfl) ?_
                  refine lv_sipush (v := zI 141) hX0 hB0 dX12_bendHere_83 (by decide) ?_
                  refine lv_iload hX0 hB0 dX12_bendHere_86 (lv_at hl 0 rfl) ?_
                  refine lv_iload hX0 hB0 dX12_bendHere_88 (lv_at hl 2 rfl) ?_
                  refine lv_iload hX0 hB0 dX12_bendHere_90 (lv_at hl 0 rfl) ?_
                  refine z_isub (z := n61 - i73) CX dX12_bendHere_92 rfl ?_
                  refine z_calli hW (va_runV (C := RX12) (As := [.int (zI 141), .int (zI i73), .int (zI (n61 - i73))]) (rest := [.long (zL s73)]) CX.fix (zk_cell l o S 141 i73 (n61 - i73) hI (by constructor <;> omega) (by constructor <;> omega) (by constructor <;> omega)) (cwV 3 CX.fix.2.2.2.2 gX12_bendHere_X12_cell rfl rfl rfl (by decide +kernel) ⟨Nat.le_of_ble_eq_true rfl, Nat.le_of_ble_eq_true rfl⟩) (z_preV CX hW (r := (RX12, TX12, 37)) zMO_0 rfl) rfl rfl hl.1 rfl (lv_room (Nat.le_of_ble_eq_true rfl)) dX12_bendHere_93 ⟨Nat.zero_le _, Nat.zero_le _⟩) (fun z93 gn H locs hok hW => ?_)
                  obtain ⟨hz93, hg, hq93⟩ := hok
                  rw [hg] at hW
                  clear hg
                  have e93 : zm_cell S 141 i73 (n61 - i73) = z93 := hz93.symm
                  clear hz93
                  refine z_i2l CX dX12_bendHere_96 (by constructor <;> omega) ?_
                  refine lv_aload_n hX0 hB0 dX12_bendHere_97 rfl (lv_at hl 7 rfl) ?_
                  refine lv_iload_n hX0 hB0 dX12_bendHere_98 rfl (lv_at hl 4 rfl) ?_
                  refine lv_iload hX0 hB0 dX12_bendHere_99 (lv_at hl 0 rfl) ?_
                  refine z_calli hW (va_runV (C := RX12) (As := [.int (zI a21j), .int (zI i73)]) (rest := [.long (zL z93), .long (zL s73)]) CX.fix (zk_power l o S a21j i73 hI (by constructor <;> omega) (by constructor <;> omega)) (cwV 2 CX.fix.2.2.2.2 gX12_bendHere_X12_power rfl rfl rfl (by decide +kernel) ⟨Nat.le_of_ble_eq_true rfl, Nat.le_of_ble_eq_true rfl⟩) (z_preV CX hW (r := (RX12, TX12, 37)) zMO_0 rfl) rfl rfl hl.1 rfl (lv_room (Nat.le_of_ble_eq_true rfl)) dX12_bendHere_101 ⟨Nat.zero_le _, Nat.zero_le _⟩) (fun z101 gn H locs hok hW => ?_)
                  obtain ⟨hz101, hg, hq101⟩ := hok
                  rw [hg] at hW
                  clear hg
                  have e101 : zm_power S a21j i73 = z101 := hz101.symm
                  clear hz101
                  refine z_i2l CX dX12_bendHere_104 (by constructor <;> omega) ?_
                  refine z_lmul (z := z93 * z101) CX dX12_bendHere_105 rfl ?_
                  have hm105 := zbox_mul0 (a := z93) (b := z101) (A := 30) (B := 30) (by constructor <;> omega) (by constructor <;> omega) (C := 900) (by decide)
                  refine lv_aload_n hX0 hB0 dX12_bendHere_106 rfl (lv_at hl 7 rfl) ?_
                  refine z_get (Cn := RX12) (T := TX12) (N := 37) CX hW (v := .int (zI (S 0 10))) zMO_0 rfl (fun w h => List.mem_cons_of_mem _ (List.mem_append_right _ h)) 10 (by decide) (List.mem_of_getElem? (i := 1) rfl) rfl rfl dX12_bendHere_107 ?_
                  have hr107 := hI.s10
                  refine z_i2l CX dX12_bendHere_110 (by constructor <;> omega) ?_
                  refine z_lrem (z := Int.tmod (z93 * z101) (S 0 10)) CX dX12_bendHere_111 (by constructor <;> omega) (by constructor <;> omega) rfl ?_
                  have ht111 := ztm0 (n := z93 * z101) (p := S 0 10) (by omega) (by omega)
                  refine lv_aload_n hX0 hB0 dX12_bendHere_112 rfl (lv_at hl 7 rfl) ?_
                  refine lv_iload hX0 hB0 dX12_bendHere_113 (lv_at hl 3 rfl) ?_
                  refine lv_iload hX0 hB0 dX12_bendHere_115 (lv_at hl 2 rfl) ?_
                  refine lv_iload hX0 hB0 dX12_bendHere_117 (lv_at hl 0 rfl) ?_
                  refine z_isub (z := n61 - i73) CX dX12_bendHere_119 rfl ?_
                  refine z_calli hW (va_runV (C := RX12) (As := [.int (zI b31j), .int (zI (n61 - i73))]) (rest := [.long (zL (Int.tmod (z93 * z101) (S 0 10))), .long (zL s73)]) CX.fix (zk_power l o S b31j (n61 - i73) hI (by constructor <;> omega) (by constructor <;> omega)) (cwV 2 CX.fix.2.2.2.2 gX12_bendHere_X12_power rfl rfl rfl (by decide +kernel) ⟨Nat.le_of_ble_eq_true rfl, Nat.le_of_ble_eq_true rfl⟩) (z_preV CX hW (r := (RX12, TX12, 37)) zMO_0 rfl) rfl rfl hl.1 rfl (lv_room (Nat.le_of_ble_eq_true rfl)) dX12_bendHere_120 ⟨Nat.zero_le _, Nat.zero_le _⟩) (fun z120 gn H locs hok hW => ?_)
                  obtain ⟨hz120, hg, hq120⟩ := hok
                  rw [hg] at hW
                  clear hg
                  have e120 : zm_power S b31j (n61 - i73) = z120 := hz120.symm
                  clear hz120
                  refine z_i2l CX dX12_bendHere_123 (by constructor <;> omega) ?_
                  refine z_lmul (z := (Int.tmod (z93 * z101) (S 0 10)) * z120) CX dX12_bendHere_124 rfl ?_
                  have hm124 := zbox_mul0 (a := Int.tmod (z93 * z101) (S 0 10)) (b := z120) (A := 30) (B := 30) (by constructor <;> omega) (by constructor <;> omega) (C := 900) (by decide)
                  refine lv_aload_n hX0 hB0 dX12_bendHere_125 rfl (lv_at hl 7 rfl) ?_
                  refine z_get (Cn := RX12) (T := TX12) (N := 37) CX hW (v := .int (zI (S 0 10))) zMO_0 rfl (fun w h => List.mem_cons_of_mem _ (List.mem_append_right _ h)) 10 (by decide) (List.mem_of_getElem? (i := 1) rfl) rfl rfl dX12_bendHere_126 ?_
                  have hr126 := hI.s10
                  refine z_i2l CX dX12_bendHere_129 (by constructor <;> omega) ?_
                  refine z_lrem (z := Int.tmod ((Int.tmod (z93 * z101) (S 0 10)) * z120) (S 0 10)) CX dX12_bendHere_130 (by constructor <;> omega) (by constructor <;> omega) rfl ?_
                  have ht130 := ztm0 (n := (Int.tmod (z93 * z101) (S 0 10)) * z120) (p := S 0 10) (by omega) (by omega)
                  refine z_ladd (z := s73 + (Int.tmod ((Int.tmod (z93 * z101) (S 0 10)) * z120) (S 0 10))) CX dX12_bendHere_131 rfl ?_
                  refine lv_lstore (lv' := [(6, .long (zL (s73 + (Int.tmod ((Int.tmod (z93 * z101) (S 0 10)) * z120) (S 0 10))))), (8, .int (zI i73)), (5, .int (zI n61)), (4, .int (zI b31j)), (3, .int (zI a21j)), (2, .int (zI z16)), (1, .int (zI z6)), (0, .ref o)]) hX0 hB0 dX12_bendHere_132 hl (by decide) rfl (fun ls hl => ?_)
                  refine lv_iinc (v := zI (i73 + 1)) (lv' := [(8, .int (zI (i73 + 1))), (6, .long (zL (s73 + (Int.tmod ((Int.tmod (z93 * z101) (S 0 10)) * z120) (S 0 10))))), (5, .int (zI n61)), (4, .int (zI b31j)), (3, .int (zI a21j)), (2, .int (zI z16)), (1, .int (zI z6)), (0, .ref o)]) hX0 hB0 dX12_bendHere_134 hl (k := 1) rfl (zI_add _ _) (by decide) rfl (fun ls hl => ?_)
                  refine lv_goto (tgt := 73) hX0 hB0 dX12_bendHere_137 (by decide) ?_
                  exact ih73 (i73 + 1) (s73 + (Int.tmod ((Int.tmod (z93 * z101) (S 0 10)) * z120) (S 0 10))) ⟨⟨by omega, by omega⟩, (zfor_s _ _ _ (by omega)).trans ((congrArg (zm_bendHere_L73 S a21j b31j n61 i73) hz73).trans (by unfold zm_bendHere_L73; exact zlet_e e93 (zlet_e e101 (zlet_e e120 rfl)))), by omega⟩ (by omega) H locs ls hW (lv_sub hl [0, 1, 2, 3, 4, 5, 6, 7] rfl)
            exact hL73 _ 0 0 ⟨⟨by omega, by omega⟩, zfor_0 _ _ _, by omega⟩ (Nat.lt_succ_self _) H locs ls hW (lv_sub hl [0, 1, 2, 3, 4, 5, 6, 7] rfl)
      exact hL61 _ 1 ⟨rfl, by omega, by omega⟩ (by omega) H locs ls hW (lv_sub hl [0, 1, 2, 3, 4, 5] rfl)
    refine z_if_ne (tgt := 38) CX dX12_bendHere_31 (by decide) (by constructor <;> omega) (fun c_31 => ?_) (fun c_31 => ?_)
    ·
      refine lv_aload_n hX0 hB0 dX12_bendHere_38 rfl (lv_at hl 3 rfl) ?_
      refine lv_aload_n hX0 hB0 dX12_bendHere_39 rfl (lv_at hl 3 rfl) ?_
      refine z_get (Cn := RX12) (T := TX12) (N := 37) CX hW (v := .int (zI (S 0 10))) zMO_0 rfl (fun w h => List.mem_cons_of_mem _ (List.mem_append_right _ h)) 10 (by decide) (List.mem_of_getElem? (i := 1) rfl) rfl rfl dX12_bendHere_40 ?_
      have hr40 := hI.s10
      refine lv_iload_n hX0 hB0 dX12_bendHere_43 rfl (lv_at hl 2 rfl) ?_
      refine z_isub (z := (S 0 10) - z6) CX dX12_bendHere_44 rfl ?_
      refine z_i2l CX dX12_bendHere_45 (by constructor <;> omega) ?_
      refine lv_aload_n hX0 hB0 dX12_bendHere_46 rfl (lv_at hl 3 rfl) ?_
      refine lv_iload_n hX0 hB0 dX12_bendHere_47 rfl (lv_at hl 1 rfl) ?_
      refine z_calli hW (va_runV (C := RX12) (As := [.int (zI z16)]) (rest := [.long (zL ((S 0 10) - z6)), .ref o]) CX.fix (zk_inverse l o S z16 hI (by constructor <;> omega)) (cwV 1 CX.fix.2.2.2.2 gX12_bendHere_X12_inverse rfl rfl rfl (by decide +kernel) ⟨Nat.le_of_ble_eq_true rfl, Nat.le_of_ble_eq_true rfl⟩) (z_preV CX hW (r := (RX12, TX12, 37)) zMO_0 rfl) rfl rfl hl.1 rfl (lv_room (Nat.le_of_ble_eq_true rfl)) dX12_bendHere_48 ⟨Nat.zero_le _, Nat.zero_le _⟩) (fun z48 gn H locs hok hW => ?_)
      obtain ⟨hz48, hg, hq48⟩ := hok
      rw [hg] at hW
      clear hg
      have e48 : zm_inverse S z16 = z48 := hz48.symm
      clear hz48
      refine z_i2l CX dX12_bendHere_51 (by constructor <;> omega) ?_
      refine z_lmul (z := ((S 0 10) - z6) * z48) CX dX12_bendHere_52 rfl ?_
      have hm52 := zbox_mul (a := (S 0 10) - z6) (b := z48) (A := 31) (B := 30) (by constructor <;> omega) (by constructor <;> omega) (C := 930) (by decide)
      refine z_calli hW (va_runV (C := RX12) (As := [.long (zL (((S 0 10) - z6) * z48))]) (rest := []) CX.fix (zk_modulo l o S (((S 0 10) - z6) * z48) hI (by constructor <;> omega)) (cwV 1 CX.fix.2.2.2.2 gX12_bendHere_X12_modulo rfl rfl rfl (by decide +kernel) ⟨Nat.le_of_ble_eq_true rfl, Nat.le_of_ble_eq_true rfl⟩) (z_preV CX hW (r := (RX12, TX12, 37)) zMO_0 rfl) rfl rfl hl.1 rfl (lv_room (Nat.le_of_ble_eq_true rfl)) dX12_bendHere_53 ⟨Nat.zero_le _, Nat.zero_le _⟩) (fun z53 gn H locs hok hW => ?_)
      obtain ⟨hz53, hg, hq53⟩ := hok
      rw [hg] at hW
      clear hg
      have e53 : zm_modulo S (((S 0 10) - z6) * z48) = z53 := hz53.symm
      clear hz53
      exact hJ31 z53 ⟨(by unfold zm_bendHere_J31; exact zif_f c_31 (zlet_e e48 (zlet_e e53 rfl))), by omega, by omega⟩ H locs ls hW (lv_sub hl [0, 1, 2, 3] rfl)
    ·
      refine lv_iconst (v := zI 1) hX0 hB0 dX12_bendHere_34 rfl ?_
      refine lv_goto (tgt := 56) hX0 hB0 dX12_bendHere_35 (by decide) ?_
      exact hJ31 1 ⟨(by unfold zm_bendHere_J31; exact zif_t c_31 rfl), by omega, by omega⟩ H locs ls hW (lv_sub hl [0, 1, 2, 3] rfl)
  refine z_if_ne (tgt := 28) CX dX12_bendHere_21 (by decide) (by constructor <;> omega) (fun c_21 => ?_) (fun c_21 => ?_)
  ·
    refine lv_iconst (v := zI 1) hX0 hB0 dX12_bendHere_28 rfl ?_
    exact hJ21 1 ⟨(by unfold zm_bendHere_J21; exact zif_f c_21 rfl), by omega, by omega⟩ H locs ls hW (lv_sub hl [0, 1, 2] rfl)
  ·
    refine lv_iconst (v := zI 0) hX0 hB0 dX12_bendHere_24 rfl ?_
    refine lv_goto (tgt := 29) hX0 hB0 dX12_bendHere_25 (by decide) ?_
    exact hJ21 0 ⟨(by unfold zm_bendHere_J21; exact zif_t c_21 rfl), by omega, by omega⟩ H locs ls hW (lv_sub hl [0, 1, 2] rfl)
def zm_bend (S : zS2) (cv : Int) (pt : Int) : Int × zS2 := zlet (zm_isCurve S cv) (fun z2 => (if z2 = 0 then (-1, S) else zlet (zm_isPoint S pt) (fun z10 => (if z10 = 0 then (-1, S) else zlet (zm_orderAt S cv pt) (fun q19 => (fun (z19 : Int) (S19 : zS2) => (if z19 = 1 then zlet (zm_bendHere S19) (fun z27 => (z27, S19)) else (-1, S19))) q19.1 q19.2)))))
set_option maxRecDepth 100000 in
set_option maxHeartbeats 4000000 in
theorem zk_bend (l : Launch) {D : va_G} {cI cJ cZ cP cS cM : ClassId} {L : List Nat} {sz : Nat} {f : Nat → va_E} (o : Nat) (S : zS2) (cv : Int) (pt : Int) (hI : mI S) (hcv : -2147483648 ≤ cv ∧ cv ≤ 2147483647) (hpt : -2147483648 ≤ pt ∧ pt ≤ 2147483647) : zMi l yX12_bend wsX12_bend 5 127 D (zT cI cJ cZ cP cS cM) L sz (zMO cI cJ o S f) [.ref o, .int (zI cv), .int (zI pt)] (fun zv gv => zv = (zm_bend S cv pt).1 ∧ gv = zMO cI cJ o (zm_bend S cv pt).2 f ∧ mI (zm_bend S cv pt).2 ∧ (∀ kk ii : Nat, ¬ (kk = 3 ∧ 3500 ≤ (ii : Int)) → (zm_bend S cv pt).2 kk ii = S kk ii) ∧ True) := by
  refine zWalk.met (nL := 3) (ret := (some .int)) (cc := cX12_bend) (by decide) rfl (Nat.le_of_ble_eq_true rfl) ?_
  intro pg en st mi ag bl mt cd ls CX hW hl
  have CX : zC pg st mi ag mt cd cX12_bend 3 (some .int) RX12 wsX12_bend := CX
  generalize hQ : MQ bl _ ag st 0 0 _ = Q
  have hX0 := CX.1
  have hB0 := CX.2.1
  have hl : lv_has ls 3 [(0, .ref o), (1, .int (zI cv)), (2, .int (zI pt))] := hl
  obtain ⟨H, eH⟩ : ∃ H, H = st.heap := ⟨_, rfl⟩
  obtain ⟨locs, eL⟩ : ∃ L : List Loc, L = [] := ⟨_, rfl⟩
  have hW : zW D (zT cI cJ cZ cP cS cM) L (zQ L sz) st (zMO cI cJ o S f) st.heap H locs := by rw [eH, eL]; exact hW
  suffices hgo : W pg l en ({ frames := 5, cells := 0, slots := 0, locals := 127 } : Room) st mi ag bl mt cd H locs 0 0 Q (F0 mi 0 ls []) by rw [eH, eL] at hgo; exact hgo
  clear eH eL
  have hpb := hI.s10
  refine lv_aload_n hX0 hB0 dX12_bend_0 rfl (lv_at hl 0 rfl) ?_
  refine lv_iload_n hX0 hB0 dX12_bend_1 rfl (lv_at hl 1 rfl) ?_
  refine z_calli hW (va_runV (C := RX12) (As := [.int (zI cv)]) (rest := []) CX.fix (zk_isCurve l o S cv hI (by constructor <;> omega)) (cwV 1 CX.fix.2.2.2.2 gX12_bend_X12_isCurve rfl rfl rfl (by decide +kernel) ⟨Nat.le_of_ble_eq_true rfl, Nat.le_of_ble_eq_true rfl⟩) (z_preV CX hW (r := (RX12, TX12, 37)) zMO_0 rfl) rfl rfl hl.1 rfl (lv_room (Nat.le_of_ble_eq_true rfl)) dX12_bend_2 ⟨Nat.zero_le _, Nat.zero_le _⟩) (fun z2 gn H locs hok hW => ?_)
  obtain ⟨hz2, hg, hq2⟩ := hok
  rw [hg] at hW
  clear hg
  have e2 : zm_isCurve S cv = z2 := hz2.symm
  clear hz2
  refine z_if_eq (tgt := 33) CX dX12_bend_5 (by decide) (by constructor <;> omega) (fun c_5 => ?_) (fun c_5 => ?_)
  ·
    refine lv_iconst (v := zI (-1)) hX0 hB0 dX12_bend_33 rfl ?_
    have hE : zm_bend S cv pt = (-1, S) := by unfold zm_bend; exact zlet_e e2 (zif_t c_5 rfl)
    have hFr : ∀ kk ii : Nat, ¬ (kk = 3 ∧ 3500 ≤ (ii : Int)) → S kk ii = S kk ii := fun kk ii hk => rfl
    rw [← hQ]
    exact z_iret (z := -1) CX hW (by rw [hE]; exact ⟨rfl, rfl, hI, hFr, trivial⟩) rfl dX12_bend_34
  ·
    refine lv_aload_n hX0 hB0 dX12_bend_8 rfl (lv_at hl 0 rfl) ?_
    refine lv_iload_n hX0 hB0 dX12_bend_9 rfl (lv_at hl 2 rfl) ?_
    refine z_calli hW (va_runV (C := RX12) (As := [.int (zI pt)]) (rest := []) CX.fix (zk_isPoint l o S pt hI (by constructor <;> omega)) (cwV 1 CX.fix.2.2.2.2 gX12_bend_X12_isPoint rfl rfl rfl (by decide +kernel) ⟨Nat.le_of_ble_eq_true rfl, Nat.le_of_ble_eq_true rfl⟩) (z_preV CX hW (r := (RX12, TX12, 37)) zMO_0 rfl) rfl rfl hl.1 rfl (lv_room (Nat.le_of_ble_eq_true rfl)) dX12_bend_10 ⟨Nat.zero_le _, Nat.zero_le _⟩) (fun z10 gn H locs hok hW => ?_)
    obtain ⟨hz10, hg, hq10⟩ := hok
    rw [hg] at hW
    clear hg
    have e10 : zm_isPoint S pt = z10 := hz10.symm
    clear hz10
    refine z_if_eq (tgt := 33) CX dX12_bend_13 (by decide) (by constructor <;> omega) (fun c_13 => ?_) (fun c_13 => ?_)
    ·
      refine lv_iconst (v := zI (-1)) hX0 hB0 dX12_bend_33 rfl ?_
      have hE : zm_bend S cv pt = (-1, S) := by unfold zm_bend; exact zlet_e e2 (zif_f c_5 (zlet_e e10 (zif_t c_13 rfl)))
      have hFr : ∀ kk ii : Nat, ¬ (kk = 3 ∧ 3500 ≤ (ii : Int)) → S kk ii = S kk ii := fun kk ii hk => rfl
      rw [← hQ]
      exact z_iret (z := -1) CX hW (by rw [hE]; exact ⟨rfl, rfl, hI, hFr, trivial⟩) rfl dX12_bend_34
    ·
      refine lv_aload_n hX0 hB0 dX12_bend_16 rfl (lv_at hl 0 rfl) ?_
      refine lv_iload_n hX0 hB0 dX12_bend_17 rfl (lv_at hl 1 rfl) ?_
      refine lv_iload_n hX0 hB0 dX12_bend_18 rfl (lv_at hl 2 rfl) ?_
      refine z_calli hW (va_runV (C := RX12) (As := [.int (zI cv), .int (zI pt)]) (rest := []) CX.fix (zk_orderAt l o S cv pt hI (by constructor <;> omega) (by constructor <;> omega)) (cwV 2 CX.fix.2.2.2.2 gX12_bend_X12_orderAt rfl rfl rfl (by decide +kernel) ⟨Nat.le_of_ble_eq_true rfl, Nat.le_of_ble_eq_true rfl⟩) (z_preV CX hW (r := (RX12, TX12, 37)) zMO_0 rfl) rfl rfl hl.1 rfl (lv_room (Nat.le_of_ble_eq_true rfl)) dX12_bend_19 ⟨Nat.zero_le _, Nat.zero_le _⟩) (fun z19 gn H locs hok hW => ?_)
      obtain ⟨hz19, hg, hI19, hf19, hq19⟩ := hok
      obtain ⟨S19, hS19⟩ : ∃ q, q = (zm_orderAt S cv pt).2 := ⟨_, rfl⟩
      rw [← hS19] at hg hI19 hf19
      skip
      try rw [← hS19] at hq19
      rw [hg] at hW
      clear hg
      have e19 : zm_orderAt S cv pt = (z19, S19) := Prod.ext hz19.symm hS19.symm
      clear hz19 hS19
      refine lv_iconst (v := zI 1) hX0 hB0 dX12_bend_22 rfl ?_
      refine z_icmp_ne (tgt := 33) CX dX12_bend_23 (by decide) (by constructor <;> omega) (by constructor <;> omega) (fun c_23 => ?_) (fun c_23 => ?_)
      ·
        refine lv_iconst (v := zI (-1)) hX0 hB0 dX12_bend_33 rfl ?_
        have hE : zm_bend S cv pt = (-1, S19) := by unfold zm_bend; exact zlet_e e2 (zif_f c_5 (zlet_e e10 (zif_f c_13 (zlet_e e19 (zif_f c_23 rfl)))))
        have hFr : ∀ kk ii : Nat, ¬ (kk = 3 ∧ 3500 ≤ (ii : Int)) → S19 kk ii = S kk ii := fun kk ii hk => (hf19 kk ii (by omega))
        rw [← hQ]
        exact z_iret (z := -1) CX hW (by rw [hE]; exact ⟨rfl, rfl, hI19, hFr, trivial⟩) rfl dX12_bend_34
      ·
        refine lv_aload_n hX0 hB0 dX12_bend_26 rfl (lv_at hl 0 rfl) ?_
        refine z_calli hW (va_runV (C := RX12) (As := []) (rest := []) CX.fix (zk_bendHere l o S19  hI19 ) (cwV 0 CX.fix.2.2.2.2 gX12_bend_X12_bendHere rfl rfl rfl (by decide +kernel) ⟨Nat.le_of_ble_eq_true rfl, Nat.le_of_ble_eq_true rfl⟩) (z_preV CX hW (r := (RX12, TX12, 37)) zMO_0 rfl) rfl rfl hl.1 rfl (lv_room (Nat.le_of_ble_eq_true rfl)) dX12_bend_27 ⟨Nat.zero_le _, Nat.zero_le _⟩) (fun z27 gn H locs hok hW => ?_)
        obtain ⟨hz27, hg, hq27⟩ := hok
        rw [hg] at hW
        clear hg
        have e27 : zm_bendHere S19 = z27 := hz27.symm
        clear hz27
        refine lv_goto (tgt := 34) hX0 hB0 dX12_bend_30 (by decide) ?_
        have hE : zm_bend S cv pt = (z27, S19) := by unfold zm_bend; exact zlet_e e2 (zif_f c_5 (zlet_e e10 (zif_f c_13 (zlet_e e19 (zif_t c_23 (zlet_e e27 rfl))))))
        have hFr : ∀ kk ii : Nat, ¬ (kk = 3 ∧ 3500 ≤ (ii : Int)) → S19 kk ii = S kk ii := fun kk ii hk => (hf19 kk ii (by omega))
        rw [← hQ]
        exact z_iret (z := z27) CX hW (by rw [hE]; exact ⟨rfl, rfl, hI19, hFr, trivial⟩) rfl dX12_bend_34
def zm_flex_W20 (cv : Int) (k : Int) : Nat → Int → Int → zS2 → (Int × zS2) ⊕ (Int × Int × zS2)
  | 0, n20, p20, S20 => .inr (n20, p20, S20)
  | fu20 + 1, n20, p20, S20 => zlet (zm_points S20) (fun z23 => (if z23 ≤ p20 then .inr (n20, p20, S20) else zlet (zm_orderAt S20 cv p20) (fun q33 => (fun (z33 : Int) (S33 : zS2) => (if z33 = 1 then zlet (zm_bendHere S33) (fun z44 => (if z44 = -2 then (if n20 = k then .inl ((p20, S33)) else zm_flex_W20 cv k fu20 (n20 + 1) (p20 + 1) S33) else (if 3 ≤ z44 then (if n20 = k then .inl ((p20, S33)) else zm_flex_W20 cv k fu20 (n20 + 1) (p20 + 1) S33) else zm_flex_W20 cv k fu20 n20 (p20 + 1) S33))) else zm_flex_W20 cv k fu20 n20 (p20 + 1) S33)) q33.1 q33.2)))
def zm_flex (S : zS2) (cv : Int) (k : Int) : Int × zS2 := zlet (zm_isCurve S cv) (fun z2 => (if z2 = 0 then (-1, S) else (if -1 ≤ k then zsum (zm_flex_W20 cv k ((995 : Nat)) 0 0 S) (fun r20 => r20) (fun q20 => (fun (n20 : Int) (p20 : Int) (S20 : zS2) => (if k = -1 then (n20, S20) else (-1, S20))) q20.1 q20.2.1 q20.2.2) else (-1, S))))
set_option maxRecDepth 100000 in
set_option maxHeartbeats 4000000 in
theorem zk_flex (l : Launch) {D : va_G} {cI cJ cZ cP cS cM : ClassId} {L : List Nat} {sz : Nat} {f : Nat → va_E} (o : Nat) (S : zS2) (cv : Int) (k : Int) (hI : mI S) (hcv : -2147483648 ≤ cv ∧ cv ≤ 2147483647) (hk : -2147483648 ≤ k ∧ k ≤ 2147483647) : zMi l yX12_flex wsX12_flex 5 127 D (zT cI cJ cZ cP cS cM) L sz (zMO cI cJ o S f) [.ref o, .int (zI cv), .int (zI k)] (fun zv gv => zv = (zm_flex S cv k).1 ∧ gv = zMO cI cJ o (zm_flex S cv k).2 f ∧ mI (zm_flex S cv k).2 ∧ (∀ kk ii : Nat, ¬ (kk = 3 ∧ 3500 ≤ (ii : Int)) → (zm_flex S cv k).2 kk ii = S kk ii) ∧ True) := by
  refine zWalk.met (nL := 6) (ret := (some .int)) (cc := cX12_flex) (by decide) rfl (Nat.le_of_ble_eq_true rfl) ?_
  intro pg en st mi ag bl mt cd ls CX hW hl
  have CX : zC pg st mi ag mt cd cX12_flex 6 (some .int) RX12 wsX12_flex := CX
  generalize hQ : MQ bl _ ag st 0 0 _ = Q
  have hX0 := CX.1
  have hB0 := CX.2.1
  have hl : lv_has ls 6 [(0, .ref o), (1, .int (zI cv)), (2, .int (zI k))] := hl
  obtain ⟨H, eH⟩ : ∃ H, H = st.heap := ⟨_, rfl⟩
  obtain ⟨locs, eL⟩ : ∃ L : List Loc, L = [] := ⟨_, rfl⟩
  have hW : zW D (zT cI cJ cZ cP cS cM) L (zQ L sz) st (zMO cI cJ o S f) st.heap H locs := by rw [eH, eL]; exact hW
  suffices hgo : W pg l en ({ frames := 5, cells := 0, slots := 0, locals := 127 } : Room) st mi ag bl mt cd H locs 0 0 Q (F0 mi 0 ls []) by rw [eH, eL] at hgo; exact hgo
  clear eH eL
  have hpb := hI.s10
  refine lv_aload_n hX0 hB0 dX12_flex_0 rfl (lv_at hl 0 rfl) ?_
  refine lv_iload_n hX0 hB0 dX12_flex_1 rfl (lv_at hl 1 rfl) ?_
  refine z_calli hW (va_runV (C := RX12) (As := [.int (zI cv)]) (rest := []) CX.fix (zk_isCurve l o S cv hI (by constructor <;> omega)) (cwV 1 CX.fix.2.2.2.2 gX12_flex_X12_isCurve rfl rfl rfl (by decide +kernel) ⟨Nat.le_of_ble_eq_true rfl, Nat.le_of_ble_eq_true rfl⟩) (z_preV CX hW (r := (RX12, TX12, 37)) zMO_0 rfl) rfl rfl hl.1 rfl (lv_room (Nat.le_of_ble_eq_true rfl)) dX12_flex_2 ⟨Nat.zero_le _, Nat.zero_le _⟩) (fun z2 gn H locs hok hW => ?_)
  obtain ⟨hz2, hg, hq2⟩ := hok
  rw [hg] at hW
  clear hg
  have e2 : zm_isCurve S cv = z2 := hz2.symm
  clear hz2
  refine z_if_eq (tgt := 13) CX dX12_flex_5 (by decide) (by constructor <;> omega) (fun c_5 => ?_) (fun c_5 => ?_)
  ·
    refine lv_iconst (v := zI (-1)) hX0 hB0 dX12_flex_13 rfl ?_
    have hE : zm_flex S cv k = (-1, S) := by unfold zm_flex; exact zlet_e e2 (zif_t c_5 rfl)
    have hFr : ∀ kk ii : Nat, ¬ (kk = 3 ∧ 3500 ≤ (ii : Int)) → S kk ii = S kk ii := fun kk ii hk => rfl
    rw [← hQ]
    exact z_iret (z := -1) CX hW (by rw [hE]; exact ⟨rfl, rfl, hI, hFr, trivial⟩) rfl dX12_flex_14
  ·
    refine lv_iload_n hX0 hB0 dX12_flex_8 rfl (lv_at hl 2 rfl) ?_
    refine lv_iconst (v := zI (-1)) hX0 hB0 dX12_flex_9 rfl ?_
    refine z_icmp_ge (tgt := 15) CX dX12_flex_10 (by decide) (by constructor <;> omega) (by constructor <;> omega) (fun c_10 => ?_) (fun c_10 => ?_)
    ·
      refine lv_iconst (v := zI 0) hX0 hB0 dX12_flex_15 rfl ?_
      refine lv_istore_n (lv' := [(3, .int (zI 0)), (0, .ref o), (1, .int (zI cv)), (2, .int (zI k))]) hX0 hB0 dX12_flex_16 rfl hl (by decide) rfl (fun ls hl => ?_)
      refine lv_iconst (v := zI 0) hX0 hB0 dX12_flex_17 rfl ?_
      refine lv_istore (lv' := [(4, .int (zI 0)), (3, .int (zI 0)), (0, .ref o), (1, .int (zI cv)), (2, .int (zI k))]) hX0 hB0 dX12_flex_18 hl (by decide) rfl (fun ls hl => ?_)
      have hXt20 : ∀ (n20 : Int) (p20 : Int) (S20 : zS2), (zm_flex_W20 cv k ((995 : Nat)) 0 0 S = .inr (n20, p20, S20) ∧ mI S20 ∧ (∀ kk ii : Nat, ¬ (kk = 3 ∧ 3500 ≤ (ii : Int)) → S20 kk ii = S kk ii) ∧ 0 ≤ n20 ∧ n20 ≤ 1000 ∧ 0 ≤ p20 ∧ p20 ≤ 993 ∧ (n20 ≤ p20)) → ∀ (H : Heap) (locs : List Loc) (ls : Array Slot), zW D (zT cI cJ cZ cP cS cM) L (zQ L sz) st (zMO cI cJ o S20 f) st.heap H locs → lv_has ls 6 [(3, .int (zI n20)), (4, .int (zI p20)), (0, .ref o), (1, .int (zI cv)), (2, .int (zI k))] → W pg l en ({ frames := 5, cells := 0, slots := 0, locals := 127 } : Room) st mi ag bl mt cd H locs 0 0 Q (F0 mi 82 ls []) := by
        intro n20 p20 S20 hinv H locs ls hW hl
        obtain ⟨e20, hI20, hf20, han20, hbn20, hap20, hbp20, hv20⟩ := hinv
        have hp20 := hI20.s10
        refine lv_iload_n hX0 hB0 dX12_flex_82 rfl (lv_at hl 4 rfl) ?_
        refine lv_iconst (v := zI (-1)) hX0 hB0 dX12_flex_83 rfl ?_
        refine z_icmp_ne (tgt := 91) CX dX12_flex_84 (by decide) (by constructor <;> omega) (by constructor <;> omega) (fun c_84 => ?_) (fun c_84 => ?_)
        ·
          refine lv_iconst (v := zI (-1)) hX0 hB0 dX12_flex_91 rfl ?_
          have hE : zm_flex S cv k = (-1, S20) := by unfold zm_flex; exact zlet_e e2 (zif_f c_5 (zif_t c_10 (zsum_r e20 (zif_f c_84 rfl))))
          have hFr : ∀ kk ii : Nat, ¬ (kk = 3 ∧ 3500 ≤ (ii : Int)) → S20 kk ii = S kk ii := fun kk ii hk => (hf20 kk ii (by omega))
          rw [← hQ]
          exact z_iret (z := -1) CX hW (by rw [hE]; exact ⟨rfl, rfl, hI20, hFr, trivial⟩) rfl dX12_flex_92
        ·
          refine lv_iload_n hX0 hB0 dX12_flex_87 rfl (lv_at hl 0 rfl) ?_
          refine lv_goto (tgt := 92) hX0 hB0 dX12_flex_88 (by decide) ?_
          have hE : zm_flex S cv k = (n20, S20) := by unfold zm_flex; exact zlet_e e2 (zif_f c_5 (zif_t c_10 (zsum_r e20 (zif_t c_84 rfl))))
          have hFr : ∀ kk ii : Nat, ¬ (kk = 3 ∧ 3500 ≤ (ii : Int)) → S20 kk ii = S kk ii := fun kk ii hk => (hf20 kk ii (by omega))
          rw [← hQ]
          exact z_iret (z := n20) CX hW (by rw [hE]; exact ⟨rfl, rfl, hI20, hFr, trivial⟩) rfl dX12_flex_92
      have hL20 : ∀ (fu : Nat) (n20 : Int) (p20 : Int) (S20 : zS2), (zm_flex_W20 cv k ((995 : Nat)) 0 0 S = zm_flex_W20 cv k fu n20 p20 S20 ∧ mI S20 ∧ (∀ kk ii : Nat, ¬ (kk = 3 ∧ 3500 ≤ (ii : Int)) → S20 kk ii = S kk ii) ∧ 0 ≤ n20 ∧ n20 ≤ 1000 ∧ 0 ≤ p20 ∧ p20 ≤ 993 ∧ (n20 ≤ p20)) → (994 - p20).toNat < fu → ∀ (H : Heap) (locs : List Loc) (ls : Array Slot), zW D (zT cI cJ cZ cP cS cM) L (zQ L sz) st (zMO cI cJ o S20 f) st.heap H locs → lv_has ls 6 [(3, .int (zI n20)), (4, .int (zI p20)), (0, .ref o), (1, .int (zI cv)), (2, .int (zI k))] → W pg l en ({ frames := 5, cells := 0, slots := 0, locals := 127 } : Room) st mi ag bl mt cd H locs 0 0 Q (F0 mi 20 ls []) := by
        intro fu
        induction fu with
        | zero => intro n20 p20 S20 _ hfu; exact absurd hfu (Nat.not_lt_zero _)
        | succ fu ih20 =>
          intro n20 p20 S20 hinv hfu20 H locs ls hW hl
          obtain ⟨hz20, hI20, hf20, han20, hbn20, hap20, hbp20, hv20⟩ := hinv
          have hp20 := hI20.s10
          refine lv_iload hX0 hB0 dX12_flex_20 (lv_at hl 1 rfl) ?_
          refine lv_aload_n hX0 hB0 dX12_flex_22 rfl (lv_at hl 2 rfl) ?_
          refine z_calli hW (va_runV (C := RX12) (As := []) (rest := [.int (zI p20)]) CX.fix (zk_points l o S20  hI20 ) (cwV 0 CX.fix.2.2.2.2 gX12_flex_X12_points rfl rfl rfl (by decide +kernel) ⟨Nat.le_of_ble_eq_true rfl, Nat.le_of_ble_eq_true rfl⟩) (z_preV CX hW (r := (RX12, TX12, 37)) zMO_0 rfl) rfl rfl hl.1 rfl (lv_room (Nat.le_of_ble_eq_true rfl)) dX12_flex_23 ⟨Nat.zero_le _, Nat.zero_le _⟩) (fun z23 gn H locs hok hW => ?_)
          obtain ⟨hz23, hg, hq23⟩ := hok
          rw [hg] at hW
          clear hg
          have e23 : zm_points S20 = z23 := hz23.symm
          clear hz23
          refine z_icmp_ge (tgt := 82) CX dX12_flex_26 (by decide) (by constructor <;> omega) (by constructor <;> omega) (fun c_26 => ?_) (fun c_26 => ?_)
          ·
            exact hXt20 n20 p20 S20 ⟨hz20.trans (by rw [zm_flex_W20]; exact zlet_e e23 (zif_t c_26 rfl)), hI20, fun kk ii hk => (hf20 kk ii (by omega)), by omega, by omega, by omega, by omega, by omega⟩ H locs ls hW (lv_sub hl [0, 1, 2, 3, 4] rfl)
          ·
            have d_26 : ¬ z23 ≤ p20 := by omega
            refine lv_aload_n hX0 hB0 dX12_flex_29 rfl (lv_at hl 2 rfl) ?_
            refine lv_iload_n hX0 hB0 dX12_flex_30 rfl (lv_at hl 3 rfl) ?_
            refine lv_iload hX0 hB0 dX12_flex_31 (lv_at hl 1 rfl) ?_
            refine z_calli hW (va_runV (C := RX12) (As := [.int (zI cv), .int (zI p20)]) (rest := []) CX.fix (zk_orderAt l o S20 cv p20 hI20 (by constructor <;> omega) (by constructor <;> omega)) (cwV 2 CX.fix.2.2.2.2 gX12_flex_X12_orderAt rfl rfl rfl (by decide +kernel) ⟨Nat.le_of_ble_eq_true rfl, Nat.le_of_ble_eq_true rfl⟩) (z_preV CX hW (r := (RX12, TX12, 37)) zMO_0 rfl) rfl rfl hl.1 rfl (lv_room (Nat.le_of_ble_eq_true rfl)) dX12_flex_33 ⟨Nat.zero_le _, Nat.zero_le _⟩) (fun z33 gn H locs hok hW => ?_)
            obtain ⟨hz33, hg, hI33, hf33, hq33⟩ := hok
            obtain ⟨S33, hS33⟩ : ∃ q, q = (zm_orderAt S20 cv p20).2 := ⟨_, rfl⟩
            rw [← hS33] at hg hI33 hf33
            skip
            try rw [← hS33] at hq33
            rw [hg] at hW
            clear hg
            have e33 : zm_orderAt S20 cv p20 = (z33, S33) := Prod.ext hz33.symm hS33.symm
            clear hz33 hS33
            refine lv_iconst (v := zI 1) hX0 hB0 dX12_flex_36 rfl ?_
            refine z_icmp_eq (tgt := 43) CX dX12_flex_37 (by decide) (by constructor <;> omega) (by constructor <;> omega) (fun c_37 => ?_) (fun c_37 => ?_)
            ·
              refine lv_aload_n hX0 hB0 dX12_flex_43 rfl (lv_at hl 2 rfl) ?_
              refine z_calli hW (va_runV (C := RX12) (As := []) (rest := []) CX.fix (zk_bendHere l o S33  hI33 ) (cwV 0 CX.fix.2.2.2.2 gX12_flex_X12_bendHere rfl rfl rfl (by decide +kernel) ⟨Nat.le_of_ble_eq_true rfl, Nat.le_of_ble_eq_true rfl⟩) (z_preV CX hW (r := (RX12, TX12, 37)) zMO_0 rfl) rfl rfl hl.1 rfl (lv_room (Nat.le_of_ble_eq_true rfl)) dX12_flex_44 ⟨Nat.zero_le _, Nat.zero_le _⟩) (fun z44 gn H locs hok hW => ?_)
              obtain ⟨hz44, hg, hq44⟩ := hok
              rw [hg] at hW
              clear hg
              have e44 : zm_bendHere S33 = z44 := hz44.symm
              clear hz44
              refine lv_istore (lv' := [(5, .int (zI z44)), (3, .int (zI n20)), (4, .int (zI p20)), (0, .ref o), (1, .int (zI cv)), (2, .int (zI k))]) hX0 hB0 dX12_flex_47 hl (by decide) rfl (fun ls hl => ?_)
              refine lv_iload hX0 hB0 dX12_flex_49 (lv_at hl 0 rfl) ?_
              refine lv_bipush (v := zI (-2)) hX0 hB0 dX12_flex_51 (by decide) ?_
              refine z_icmp_eq (tgt := 65) CX dX12_flex_53 (by decide) (by constructor <;> omega) (by constructor <;> omega) (fun c_53 => ?_) (fun c_53 => ?_)
              ·
                refine lv_iload_n hX0 hB0 dX12_flex_65 rfl (lv_at hl 1 rfl) ?_
                refine lv_iload_n hX0 hB0 dX12_flex_66 rfl (lv_at hl 5 rfl) ?_
                refine z_icmp_ne (tgt := 73) CX dX12_flex_67 (by decide) (by constructor <;> omega) (by constructor <;> omega) (fun c_67 => ?_) (fun c_67 => ?_)
                ·
                  refine lv_iinc (v := zI (n20 + 1)) (lv' := [(3, .int (zI (n20 + 1))), (5, .int (zI z44)), (4, .int (zI p20)), (0, .ref o), (1, .int (zI cv)), (2, .int (zI k))]) hX0 hB0 dX12_flex_73 hl (k := 1) rfl (zI_add _ _) (by decide) rfl (fun ls hl => ?_)
                  refine lv_iinc (v := zI (p20 + 1)) (lv' := [(4, .int (zI (p20 + 1))), (3, .int (zI (n20 + 1))), (5, .int (zI z44)), (0, .ref o), (1, .int (zI cv)), (2, .int (zI k))]) hX0 hB0 dX12_flex_76 hl (k := 2) rfl (zI_add _ _) (by decide) rfl (fun ls hl => ?_)
                  refine lv_goto (tgt := 20) hX0 hB0 dX12_flex_79 (by decide) ?_
                  exact ih20 (n20 + 1) (p20 + 1) S33 ⟨hz20.trans (by rw [zm_flex_W20]; exact zlet_e e23 (zif_f d_26 (zlet_e e33 (zif_t c_37 (zlet_e e44 (zif_t c_53 (zif_f c_67 rfl))))))), hI33, fun kk ii hk => ((hf33 kk ii (by omega))).trans (hf20 kk ii (by omega)), by omega, by omega, by omega, by omega, by omega⟩ (by omega) H locs ls hW (lv_sub hl [1, 0, 3, 4, 5] rfl)
                ·
                  refine lv_iload hX0 hB0 dX12_flex_70 (lv_at hl 2 rfl) ?_
                  have hE : zm_flex S cv k = (p20, S33) := by unfold zm_flex; exact zlet_e e2 (zif_f c_5 (zif_t c_10 (zsum_l (hz20.trans (by rw [zm_flex_W20]; exact zlet_e e23 (zif_f d_26 (zlet_e e33 (zif_t c_37 (zlet_e e44 (zif_t c_53 (zif_t c_67 rfl)))))))) rfl)))
                  have hFr : ∀ kk ii : Nat, ¬ (kk = 3 ∧ 3500 ≤ (ii : Int)) → S33 kk ii = S kk ii := fun kk ii hk => ((hf33 kk ii (by omega))).trans (hf20 kk ii (by omega))
                  rw [← hQ]
                  exact z_iret (z := p20) CX hW (by rw [hE]; exact ⟨rfl, rfl, hI33, hFr, trivial⟩) rfl dX12_flex_72
              ·
                refine lv_iload hX0 hB0 dX12_flex_56 (lv_at hl 0 rfl) ?_
                refine lv_iconst (v := zI 3) hX0 hB0 dX12_flex_58 rfl ?_
                refine z_icmp_ge (tgt := 65) CX dX12_flex_59 (by decide) (by constructor <;> omega) (by constructor <;> omega) (fun c_59 => ?_) (fun c_59 => ?_)
                ·
                  refine lv_iload_n hX0 hB0 dX12_flex_65 rfl (lv_at hl 1 rfl) ?_
                  refine lv_iload_n hX0 hB0 dX12_flex_66 rfl (lv_at hl 5 rfl) ?_
                  refine z_icmp_ne (tgt := 73) CX dX12_flex_67 (by decide) (by constructor <;> omega) (by constructor <;> omega) (fun c_67 => ?_) (fun c_67 => ?_)
                  ·
                    refine lv_iinc (v := zI (n20 + 1)) (lv' := [(3, .int (zI (n20 + 1))), (5, .int (zI z44)), (4, .int (zI p20)), (0, .ref o), (1, .int (zI cv)), (2, .int (zI k))]) hX0 hB0 dX12_flex_73 hl (k := 1) rfl (zI_add _ _) (by decide) rfl (fun ls hl => ?_)
                    refine lv_iinc (v := zI (p20 + 1)) (lv' := [(4, .int (zI (p20 + 1))), (3, .int (zI (n20 + 1))), (5, .int (zI z44)), (0, .ref o), (1, .int (zI cv)), (2, .int (zI k))]) hX0 hB0 dX12_flex_76 hl (k := 2) rfl (zI_add _ _) (by decide) rfl (fun ls hl => ?_)
                    refine lv_goto (tgt := 20) hX0 hB0 dX12_flex_79 (by decide) ?_
                    exact ih20 (n20 + 1) (p20 + 1) S33 ⟨hz20.trans (by rw [zm_flex_W20]; exact zlet_e e23 (zif_f d_26 (zlet_e e33 (zif_t c_37 (zlet_e e44 (zif_f c_53 (zif_t c_59 (zif_f c_67 rfl)))))))), hI33, fun kk ii hk => ((hf33 kk ii (by omega))).trans (hf20 kk ii (by omega)), by omega, by omega, by omega, by omega, by omega⟩ (by omega) H locs ls hW (lv_sub hl [1, 0, 3, 4, 5] rfl)
                  ·
                    refine lv_iload hX0 hB0 dX12_flex_70 (lv_at hl 2 rfl) ?_
                    have hE : zm_flex S cv k = (p20, S33) := by unfold zm_flex; exact zlet_e e2 (zif_f c_5 (zif_t c_10 (zsum_l (hz20.trans (by rw [zm_flex_W20]; exact zlet_e e23 (zif_f d_26 (zlet_e e33 (zif_t c_37 (zlet_e e44 (zif_f c_53 (zif_t c_59 (zif_t c_67 rfl))))))))) rfl)))
                    have hFr : ∀ kk ii : Nat, ¬ (kk = 3 ∧ 3500 ≤ (ii : Int)) → S33 kk ii = S kk ii := fun kk ii hk => ((hf33 kk ii (by omega))).trans (hf20 kk ii (by omega))
                    rw [← hQ]
                    exact z_iret (z := p20) CX hW (by rw [hE]; exact ⟨rfl, rfl, hI33, hFr, trivial⟩) rfl dX12_flex_72
                ·
                  have d_59 : ¬ 3 ≤ z44 := by omega
                  refine lv_goto (tgt := 76) hX0 hB0 dX12_flex_62 (by decide) ?_
                  refine lv_iinc (v := zI (p20 + 1)) (lv' := [(4, .int (zI (p20 + 1))), (5, .int (zI z44)), (3, .int (zI n20)), (0, .ref o), (1, .int (zI cv)), (2, .int (zI k))]) hX0 hB0 dX12_flex_76 hl (k := 2) rfl (zI_add _ _) (by decide) rfl (fun ls hl => ?_)
                  refine lv_goto (tgt := 20) hX0 hB0 dX12_flex_79 (by decide) ?_
                  exact ih20 n20 (p20 + 1) S33 ⟨hz20.trans (by rw [zm_flex_W20]; exact zlet_e e23 (zif_f d_26 (zlet_e e33 (zif_t c_37 (zlet_e e44 (zif_f c_53 (zif_f d_59 rfl))))))), hI33, fun kk ii hk => ((hf33 kk ii (by omega))).trans (hf20 kk ii (by omega)), by omega, by omega, by omega, by omega, by omega⟩ (by omega) H locs ls hW (lv_sub hl [2, 0, 3, 4, 5] rfl)
            ·
              refine lv_goto (tgt := 76) hX0 hB0 dX12_flex_40 (by decide) ?_
              refine lv_iinc (v := zI (p20 + 1)) (lv' := [(4, .int (zI (p20 + 1))), (3, .int (zI n20)), (0, .ref o), (1, .int (zI cv)), (2, .int (zI k))]) hX0 hB0 dX12_flex_76 hl (k := 1) rfl (zI_add _ _) (by decide) rfl (fun ls hl => ?_)
              refine lv_goto (tgt := 20) hX0 hB0 dX12_flex_79 (by decide) ?_
              exact ih20 n20 (p20 + 1) S33 ⟨hz20.trans (by rw [zm_flex_W20]; exact zlet_e e23 (zif_f d_26 (zlet_e e33 (zif_f c_37 rfl)))), hI33, fun kk ii hk => ((hf33 kk ii (by omega))).trans (hf20 kk ii (by omega)), by omega, by omega, by omega, by omega, by omega⟩ (by omega) H locs ls hW (lv_sub hl [1, 0, 2, 3, 4] rfl)
      exact hL20 _ 0 0 S ⟨rfl, hI, fun kk ii hk => rfl, by omega, by omega, by omega, by omega, by omega⟩ (by omega) H locs ls hW (lv_sub hl [1, 0, 2, 3, 4] rfl)
    ·
      have d_10 : ¬ -1 ≤ k := by omega
      refine lv_iconst (v := zI (-1)) hX0 hB0 dX12_flex_13 rfl ?_
      have hE : zm_flex S cv k = (-1, S) := by unfold zm_flex; exact zlet_e e2 (zif_f c_5 (zif_f d_10 rfl))
      have hFr : ∀ kk ii : Nat, ¬ (kk = 3 ∧ 3500 ≤ (ii : Int)) → S kk ii = S kk ii := fun kk ii hk => rfl
      rw [← hQ]
      exact z_iret (z := -1) CX hW (by rw [hE]; exact ⟨rfl, rfl, hI, hFr, trivial⟩) rfl dX12_flex_14
def zm_genus_W30 (cv : Int) : Nat → Int → Int → zS2 → Int × Int × zS2
  | 0, v30, p30, S30 => (v30, p30, S30)
  | fu30 + 1, v30, p30, S30 => zlet (zm_points S30) (fun z33 => (if z33 ≤ p30 then (v30, p30, S30) else zlet (zm_orderAt S30 cv p30) (fun q43 => (fun (z43 : Int) (S43 : zS2) => zm_genus_W30 cv fu30 (v30 - (Int.tdiv (z43 * (z43 - 1)) 2)) (p30 + 1) S43) q43.1 q43.2)))
def zm_genus (S : zS2) (cv : Int) : Int × zS2 := zlet (zm_isCurve S cv) (fun z2 => (if z2 = 0 then (-100, S) else zlet (zm_degreeOf S cv) (fun z13 => zlet (zm_genus_W30 cv ((995 : Nat)) (Int.tdiv ((z13 - 1) * (z13 - 2)) 2) 0 S) (fun q30 => (fun (v30 : Int) (p30 : Int) (S30 : zS2) => (v30, S30)) q30.1 q30.2.1 q30.2.2))))
set_option maxRecDepth 100000 in
set_option maxHeartbeats 4000000 in
theorem zk_genus (l : Launch) {D : va_G} {cI cJ cZ cP cS cM : ClassId} {L : List Nat} {sz : Nat} {f : Nat → va_E} (o : Nat) (S : zS2) (cv : Int) (hI : mI S) (hcv : -2147483648 ≤ cv ∧ cv ≤ 2147483647) : zMi l yX12_genus wsX12_genus 5 127 D (zT cI cJ cZ cP cS cM) L sz (zMO cI cJ o S f) [.ref o, .int (zI cv)] (fun zv gv => zv = (zm_genus S cv).1 ∧ gv = zMO cI cJ o (zm_genus S cv).2 f ∧ mI (zm_genus S cv).2 ∧ (∀ kk ii : Nat, ¬ (kk = 3 ∧ 3500 ≤ (ii : Int)) → (zm_genus S cv).2 kk ii = S kk ii) ∧ True) := by
  refine zWalk.met (nL := 6) (ret := (some .int)) (cc := cX12_genus) (by decide) rfl (Nat.le_of_ble_eq_true rfl) ?_
  intro pg en st mi ag bl mt cd ls CX hW hl
  have CX : zC pg st mi ag mt cd cX12_genus 6 (some .int) RX12 wsX12_genus := CX
  generalize hQ : MQ bl _ ag st 0 0 _ = Q
  have hX0 := CX.1
  have hB0 := CX.2.1
  have hl : lv_has ls 6 [(0, .ref o), (1, .int (zI cv))] := hl
  obtain ⟨H, eH⟩ : ∃ H, H = st.heap := ⟨_, rfl⟩
  obtain ⟨locs, eL⟩ : ∃ L : List Loc, L = [] := ⟨_, rfl⟩
  have hW : zW D (zT cI cJ cZ cP cS cM) L (zQ L sz) st (zMO cI cJ o S f) st.heap H locs := by rw [eH, eL]; exact hW
  suffices hgo : W pg l en ({ frames := 5, cells := 0, slots := 0, locals := 127 } : Room) st mi ag bl mt cd H locs 0 0 Q (F0 mi 0 ls []) by rw [eH, eL] at hgo; exact hgo
  clear eH eL
  have hpb := hI.s10
  refine lv_aload_n hX0 hB0 dX12_genus_0 rfl (lv_at hl 0 rfl) ?_
  refine lv_iload_n hX0 hB0 dX12_genus_1 rfl (lv_at hl 1 rfl) ?_
  refine z_calli hW (va_runV (C := RX12) (As := [.int (zI cv)]) (rest := []) CX.fix (zk_isCurve l o S cv hI (by constructor <;> omega)) (cwV 1 CX.fix.2.2.2.2 gX12_genus_X12_isCurve rfl rfl rfl (by decide +kernel) ⟨Nat.le_of_ble_eq_true rfl, Nat.le_of_ble_eq_true rfl⟩) (z_preV CX hW (r := (RX12, TX12, 37)) zMO_0 rfl) rfl rfl hl.1 rfl (lv_room (Nat.le_of_ble_eq_true rfl)) dX12_genus_2 ⟨Nat.zero_le _, Nat.zero_le _⟩) (fun z2 gn H locs hok hW => ?_)
  obtain ⟨hz2, hg, hq2⟩ := hok
  rw [hg] at hW
  clear hg
  have e2 : zm_isCurve S cv = z2 := hz2.symm
  clear hz2
  refine z_if_ne (tgt := 11) CX dX12_genus_5 (by decide) (by constructor <;> omega) (fun c_5 => ?_) (fun c_5 => ?_)
  ·
    refine lv_aload_n hX0 hB0 dX12_genus_11 rfl (lv_at hl 0 rfl) ?_
    refine lv_iload_n hX0 hB0 dX12_genus_12 rfl (lv_at hl 1 rfl) ?_
    refine z_calli hW (va_runV (C := RX12) (As := [.int (zI cv)]) (rest := []) CX.fix (zk_degreeOf l o S cv hI (by constructor <;> omega)) (cwV 1 CX.fix.2.2.2.2 gX12_genus_X12_degreeOf rfl rfl rfl (by decide +kernel) ⟨Nat.le_of_ble_eq_true rfl, Nat.le_of_ble_eq_true rfl⟩) (z_preV CX hW (r := (RX12, TX12, 37)) zMO_0 rfl) rfl rfl hl.1 rfl (lv_room (Nat.le_of_ble_eq_true rfl)) dX12_genus_13 ⟨Nat.zero_le _, Nat.zero_le _⟩) (fun z13 gn H locs hok hW => ?_)
    obtain ⟨hz13, hg, hq13⟩ := hok
    rw [hg] at hW
    clear hg
    have e13 : zm_degreeOf S cv = z13 := hz13.symm
    clear hz13
    refine lv_istore_n (lv' := [(2, .int (zI z13)), (0, .ref o), (1, .int (zI cv))]) hX0 hB0 dX12_genus_16 rfl hl (by decide) rfl (fun ls hl => ?_)
    refine lv_iload_n hX0 hB0 dX12_genus_17 rfl (lv_at hl 0 rfl) ?_
    refine lv_iconst (v := zI 1) hX0 hB0 dX12_genus_18 rfl ?_
    refine z_isub (z := z13 - 1) CX dX12_genus_19 rfl ?_
    refine lv_iload_n hX0 hB0 dX12_genus_20 rfl (lv_at hl 0 rfl) ?_
    refine lv_iconst (v := zI 2) hX0 hB0 dX12_genus_21 rfl ?_
    refine z_isub (z := z13 - 2) CX dX12_genus_22 rfl ?_
    refine z_imul (z := (z13 - 1) * (z13 - 2)) CX dX12_genus_23 rfl ?_
    have hm23 := zbox_mul (a := z13 - 1) (b := z13 - 2) (A := 3) (B := 3) (by constructor <;> omega) (by constructor <;> omega) (C := 9) (by decide)
    refine lv_iconst (v := zI 2) hX0 hB0 dX12_genus_24 rfl ?_
    refine z_idiv (z := Int.tdiv ((z13 - 1) * (z13 - 2)) 2) CX dX12_genus_25 (by constructor <;> omega) (by constructor <;> omega) rfl ?_
    refine lv_istore_n (lv' := [(3, .int (zI (Int.tdiv ((z13 - 1) * (z13 - 2)) 2))), (2, .int (zI z13)), (0, .ref o), (1, .int (zI cv))]) hX0 hB0 dX12_genus_26 rfl hl (by decide) rfl (fun ls hl => ?_)
    refine lv_iconst (v := zI 0) hX0 hB0 dX12_genus_27 rfl ?_
    refine lv_istore (lv' := [(4, .int (zI 0)), (3, .int (zI (Int.tdiv ((z13 - 1) * (z13 - 2)) 2))), (2, .int (zI z13)), (0, .ref o), (1, .int (zI cv))]) hX0 hB0 dX12_genus_28 hl (by decide) rfl (fun ls hl => ?_)
    have hXt30 : ∀ (v30 : Int) (p30 : Int) (S30 : zS2), (zm_genus_W30 cv ((995 : Nat)) (Int.tdiv ((z13 - 1) * (z13 - 2)) 2) 0 S = (v30, p30, S30) ∧ mI S30 ∧ (∀ kk ii : Nat, ¬ (kk = 3 ∧ 3500 ≤ (ii : Int)) → S30 kk ii = S kk ii) ∧ 0 ≤ p30 ∧ p30 ≤ 993) → ∀ (H : Heap) (locs : List Loc) (ls : Array Slot), zW D (zT cI cJ cZ cP cS cM) L (zQ L sz) st (zMO cI cJ o S30 f) st.heap H locs → lv_has ls 6 [(3, .int (zI v30)), (4, .int (zI p30)), (2, .int (zI z13)), (0, .ref o), (1, .int (zI cv))] → W pg l en ({ frames := 5, cells := 0, slots := 0, locals := 127 } : Room) st mi ag bl mt cd H locs 0 0 Q (F0 mi 66 ls []) := by
      intro v30 p30 S30 hinv H locs ls hW hl
      obtain ⟨e30, hI30, hf30, hap30, hbp30⟩ := hinv
      have hp30 := hI30.s10
      refine lv_iload_n hX0 hB0 dX12_genus_66 rfl (lv_at hl 0 rfl) ?_
      have hE : zm_genus S cv = (v30, S30) := by unfold zm_genus; exact zlet_e e2 (zif_f c_5 (zlet_e e13 (zlet_e e30 rfl)))
      have hFr : ∀ kk ii : Nat, ¬ (kk = 3 ∧ 3500 ≤ (ii : Int)) → S30 kk ii = S kk ii := fun kk ii hk => (hf30 kk ii (by omega))
      rw [← hQ]
      exact z_iret (z := v30) CX hW (by rw [hE]; exact ⟨rfl, rfl, hI30, hFr, trivial⟩) rfl dX12_genus_67
    have hL30 : ∀ (fu : Nat) (v30 : Int) (p30 : Int) (S30 : zS2), (zm_genus_W30 cv ((995 : Nat)) (Int.tdiv ((z13 - 1) * (z13 - 2)) 2) 0 S = zm_genus_W30 cv fu v30 p30 S30 ∧ mI S30 ∧ (∀ kk ii : Nat, ¬ (kk = 3 ∧ 3500 ≤ (ii : Int)) → S30 kk ii = S kk ii) ∧ 0 ≤ p30 ∧ p30 ≤ 993) → (994 - p30).toNat < fu → ∀ (H : Heap) (locs : List Loc) (ls : Array Slot), zW D (zT cI cJ cZ cP cS cM) L (zQ L sz) st (zMO cI cJ o S30 f) st.heap H locs → lv_has ls 6 [(3, .int (zI v30)), (4, .int (zI p30)), (2, .int (zI z13)), (0, .ref o), (1, .int (zI cv))] → W pg l en ({ frames := 5, cells := 0, slots := 0, locals := 127 } : Room) st mi ag bl mt cd H locs 0 0 Q (F0 mi 30 ls []) := by
      intro fu
      induction fu with
      | zero => intro v30 p30 S30 _ hfu; exact absurd hfu (Nat.not_lt_zero _)
      | succ fu ih30 =>
        intro v30 p30 S30 hinv hfu30 H locs ls hW hl
        obtain ⟨hz30, hI30, hf30, hap30, hbp30⟩ := hinv
        have hp30 := hI30.s10
        refine lv_iload hX0 hB0 dX12_genus_30 (lv_at hl 1 rfl) ?_
        refine lv_aload_n hX0 hB0 dX12_genus_32 rfl (lv_at hl 3 rfl) ?_
        refine z_calli hW (va_runV (C := RX12) (As := []) (rest := [.int (zI p30)]) CX.fix (zk_points l o S30  hI30 ) (cwV 0 CX.fix.2.2.2.2 gX12_genus_X12_points rfl rfl rfl (by decide +kernel) ⟨Nat.le_of_ble_eq_true rfl, Nat.le_of_ble_eq_true rfl⟩) (z_preV CX hW (r := (RX12, TX12, 37)) zMO_0 rfl) rfl rfl hl.1 rfl (lv_room (Nat.le_of_ble_eq_true rfl)) dX12_genus_33 ⟨Nat.zero_le _, Nat.zero_le _⟩) (fun z33 gn H locs hok hW => ?_)
        obtain ⟨hz33, hg, hq33⟩ := hok
        rw [hg] at hW
        clear hg
        have e33 : zm_points S30 = z33 := hz33.symm
        clear hz33
        refine z_icmp_ge (tgt := 66) CX dX12_genus_36 (by decide) (by constructor <;> omega) (by constructor <;> omega) (fun c_36 => ?_) (fun c_36 => ?_)
        ·
          exact hXt30 v30 p30 S30 ⟨hz30.trans (by rw [zm_genus_W30]; exact zlet_e e33 (zif_t c_36 rfl)), hI30, fun kk ii hk => (hf30 kk ii (by omega)), by omega, by omega⟩ H locs ls hW (lv_sub hl [0, 1, 2, 3, 4] rfl)
        ·
          have d_36 : ¬ z33 ≤ p30 := by omega
          refine lv_aload_n hX0 hB0 dX12_genus_39 rfl (lv_at hl 3 rfl) ?_
          refine lv_iload_n hX0 hB0 dX12_genus_40 rfl (lv_at hl 4 rfl) ?_
          refine lv_iload hX0 hB0 dX12_genus_41 (lv_at hl 1 rfl) ?_
          refine z_calli hW (va_runV (C := RX12) (As := [.int (zI cv), .int (zI p30)]) (rest := []) CX.fix (zk_orderAt l o S30 cv p30 hI30 (by constructor <;> omega) (by constructor <;> omega)) (cwV 2 CX.fix.2.2.2.2 gX12_genus_X12_orderAt rfl rfl rfl (by decide +kernel) ⟨Nat.le_of_ble_eq_true rfl, Nat.le_of_ble_eq_true rfl⟩) (z_preV CX hW (r := (RX12, TX12, 37)) zMO_0 rfl) rfl rfl hl.1 rfl (lv_room (Nat.le_of_ble_eq_true rfl)) dX12_genus_43 ⟨Nat.zero_le _, Nat.zero_le _⟩) (fun z43 gn H locs hok hW => ?_)
          obtain ⟨hz43, hg, hI43, hf43, hq43⟩ := hok
          obtain ⟨S43, hS43⟩ : ∃ q, q = (zm_orderAt S30 cv p30).2 := ⟨_, rfl⟩
          rw [← hS43] at hg hI43 hf43
          skip
          try rw [← hS43] at hq43
          rw [hg] at hW
          clear hg
          have e43 : zm_orderAt S30 cv p30 = (z43, S43) := Prod.ext hz43.symm hS43.symm
          clear hz43 hS43
          refine lv_istore (lv' := [(5, .int (zI z43)), (3, .int (zI v30)), (4, .int (zI p30)), (2, .int (zI z13)), (0, .ref o), (1, .int (zI cv))]) hX0 hB0 dX12_genus_46 hl (by decide) rfl (fun ls hl => ?_)
          refine lv_iload_n hX0 hB0 dX12_genus_48 rfl (lv_at hl 1 rfl) ?_
          refine lv_iload hX0 hB0 dX12_genus_49 (lv_at hl 0 rfl) ?_
          refine lv_iload hX0 hB0 dX12_genus_51 (lv_at hl 0 rfl) ?_
          refine lv_iconst (v := zI 1) hX0 hB0 dX12_genus_53 rfl ?_
          refine z_isub (z := z43 - 1) CX dX12_genus_54 rfl ?_
          refine z_imul (z := z43 * (z43 - 1)) CX dX12_genus_55 rfl ?_
          have hm55 := zbox_mul (a := z43) (b := z43 - 1) (A := 5) (B := 4) (by constructor <;> omega) (by constructor <;> omega) (C := 20) (by decide)
          refine lv_iconst (v := zI 2) hX0 hB0 dX12_genus_56 rfl ?_
          refine z_idiv (z := Int.tdiv (z43 * (z43 - 1)) 2) CX dX12_genus_57 (by constructor <;> omega) (by constructor <;> omega) rfl ?_
          refine z_isub (z := v30 - (Int.tdiv (z43 * (z43 - 1)) 2)) CX dX12_genus_58 rfl ?_
          refine lv_istore_n (lv' := [(3, .int (zI (v30 - (Int.tdiv (z43 * (z43 - 1)) 2)))), (5, .int (zI z43)), (4, .int (zI p30)), (2, .int (zI z13)), (0, .ref o), (1, .int (zI cv))]) hX0 hB0 dX12_genus_59 rfl hl (by decide) rfl (fun ls hl => ?_)
          refine lv_iinc (v := zI (p30 + 1)) (lv' := [(4, .int (zI (p30 + 1))), (3, .int (zI (v30 - (Int.tdiv (z43 * (z43 - 1)) 2)))), (5, .int (zI z43)), (2, .int (zI z13)), (0, .ref o), (1, .int (zI cv))]) hX0 hB0 dX12_genus_60 hl (k := 2) rfl (zI_add _ _) (by decide) rfl (fun ls hl => ?_)
          refine lv_goto (tgt := 30) hX0 hB0 dX12_genus_63 (by decide) ?_
          exact ih30 (v30 - (Int.tdiv (z43 * (z43 - 1)) 2)) (p30 + 1) S43 ⟨hz30.trans (by rw [zm_genus_W30]; exact zlet_e e33 (zif_f d_36 (zlet_e e43 rfl))), hI43, fun kk ii hk => ((hf43 kk ii (by omega))).trans (hf30 kk ii (by omega)), by omega, by omega⟩ (by omega) H locs ls hW (lv_sub hl [1, 0, 3, 4, 5] rfl)
    exact hL30 _ (Int.tdiv ((z13 - 1) * (z13 - 2)) 2) 0 S ⟨rfl, hI, fun kk ii hk => rfl, by omega, by omega⟩ (by omega) H locs ls hW (lv_sub hl [1, 0, 2, 3, 4] rfl)
  ·
    refine lv_bipush (v := zI (-100)) hX0 hB0 dX12_genus_8 (by decide) ?_
    have hE : zm_genus S cv = (-100, S) := by unfold zm_genus; exact zlet_e e2 (zif_t c_5 rfl)
    have hFr : ∀ kk ii : Nat, ¬ (kk = 3 ∧ 3500 ≤ (ii : Int)) → S kk ii = S kk ii := fun kk ii hk => rfl
    rw [← hQ]
    exact z_iret (z := -100) CX hW (by rw [hE]; exact ⟨rfl, rfl, hI, hFr, trivial⟩) rfl dX12_genus_10
end ZMl
