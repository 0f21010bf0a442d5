section ZMo
def zm_laysLong_f_L12  : Int → zS2 → zS2 := fun i12 s12 => (fun (S12 : zS2) => zlet (za S12 16 i12.toNat 0) (fun S24 => S24)) s12
def zm_laysLong_f_L43 (i34 : Int) : Int → zS2 → zS2 := fun i43 s43 => (fun (S43 : zS2) => zlet (zm_cell S43 141 i34 i43) (fun z69 => zlet (za S43 16 (((17 * i34) + i43).toNat) z69) (fun S72 => S72))) s43
def zm_laysLong_f_L34  : Int → zS2 → zS2 := fun i34 s34 => (fun (S34 : zS2) => zlet (zfor (zm_laysLong_f_L43 i34) 0 S34 ((4 - i34) + 1 - 0).toNat) (fun S43 => S43)) s34
def zm_laysLong_f (S : zS2) (cv : Int) (pt : Int) : zS2 := zlet (zm_laysLocal S 141 cv pt) (fun S6 => zlet (zfor (zm_laysLong_f_L12) 0 S6 (288 + 1 - 0 : Int).toNat) (fun S12 => zlet (zfor (zm_laysLong_f_L34) 0 S12 (4 + 1 - 0 : Int).toNat) (fun S34 => S34)))
set_option maxRecDepth 100000 in
set_option maxHeartbeats 4000000 in
theorem zk_laysLong_f (l : Launch) {D : va_G} {cI cJ cZ cP cS cM : ClassId} {L : List Nat} {sz : Nat} {f : Nat → va_E} (o : Nat) (S : zS2) (cv : Int) (pt : Int) (hI : mI S) (hcv : 0 ≤ cv ∧ cv ≤ 238) (hpt : 0 ≤ pt ∧ pt ≤ 992) : zMv l yX12_laysLong wsX12_laysLong 4 105 D (zT cI cJ cZ cP cS cM) L sz (zMO cI cJ o S f) [.ref o, .ref (o + 16), .int (zI cv), .int (zI pt)] (fun gv => gv = zMO cI cJ o (zm_laysLong_f S cv pt) f ∧ mI (zm_laysLong_f S cv pt) ∧ (∀ kk ii : Nat, ¬ kk = 16 ∧ ¬ (kk = 3 ∧ 3500 ≤ (ii : Int)) → (zm_laysLong_f S cv pt) kk ii = S kk ii) ∧ True) := by
  refine zWalk.met (nL := 6) (ret := none) (cc := cX12_laysLong) (by decide) rfl (Nat.le_of_ble_eq_true rfl) ?_
  intro pg en st mi ag bl mt cd ls CX hW hl
  have CX : zC pg st mi ag mt cd cX12_laysLong 6 none RX12 wsX12_laysLong := CX
  generalize hQ : MQ bl _ ag st 0 0 _ = Q
  have hX0 := CX.1
  have hB0 := CX.2.1
  have hl : lv_has ls 6 [(0, .ref o), (1, .ref (o + 16)), (2, .int (zI cv)), (3, .int (zI pt))] := hl
  obtain ⟨H, eH⟩ : ∃ H, H = st.heap := ⟨_, rfl⟩
  obtain ⟨locs, eL⟩ : ∃ L : List Loc, L = [] := ⟨_, rfl⟩
  have hW : zW D (zT cI cJ cZ cP cS cM) L (zQ L sz) st (zMO cI cJ o S f) st.heap H locs := by rw [eH, eL]; exact hW
  suffices hgo : W pg l en ({ frames := 4, cells := 0, slots := 0, locals := 105 } : Room) st mi ag bl mt cd H locs 0 0 Q (F0 mi 0 ls []) by rw [eH, eL] at hgo; exact hgo
  clear eH eL
  have hpb := hI.s10
  refine lv_aload_n hX0 hB0 dX12_laysLong_0 rfl (lv_at hl 0 rfl) ?_
  refine lv_sipush (v := zI 141) hX0 hB0 dX12_laysLong_1 (by decide) ?_
  refine lv_iload_n hX0 hB0 dX12_laysLong_4 rfl (lv_at hl 2 rfl) ?_
  refine lv_iload_n hX0 hB0 dX12_laysLong_5 rfl (lv_at hl 3 rfl) ?_
  refine z_callv hW (va_runV (C := RX12) (As := [.int (zI 141), .int (zI cv), .int (zI pt)]) (rest := []) CX.fix (zk_laysLocal l o S 141 cv pt hI (by constructor <;> omega) (by constructor <;> omega) (by constructor <;> omega)) (cwV 3 CX.fix.2.2.2.2 gX12_laysLong_X12_laysLocal rfl rfl rfl (by decide +kernel) ⟨Nat.le_of_ble_eq_true rfl, Nat.le_of_ble_eq_true rfl⟩) (z_preV CX hW (r := (RX12, TX12, 37)) zMO_0 rfl) rfl rfl hl.1 rfl (lv_room (Nat.le_of_ble_eq_true rfl)) dX12_laysLong_6 ⟨Nat.zero_le _, Nat.zero_le _⟩) (fun gn H locs hok hW => ?_)
  obtain ⟨hg, hI6, hf6, hq6⟩ := hok
  obtain ⟨S6, e6⟩ : ∃ q, zm_laysLocal S 141 cv pt = q := ⟨_, rfl⟩
  rw [e6] at hg hI6 hf6
  skip
  try rw [e6] at hq6
  rw [hg] at hW
  clear hg
  refine lv_iconst (v := zI 0) hX0 hB0 dX12_laysLong_9 rfl ?_
  refine lv_istore (lv' := [(4, .int (zI 0)), (0, .ref o), (1, .ref (o + 16)), (2, .int (zI cv)), (3, .int (zI pt))]) hX0 hB0 dX12_laysLong_10 hl (by decide) rfl (fun ls hl => ?_)
  have hL12 : ∀ (fu : Nat) (i12 : Int) (S12 : zS2), ((0 ≤ i12 ∧ i12 ≤ 288 + 1) ∧ zfor (zm_laysLong_f_L12) 0 S6 (i12 - 0).toNat = S12 ∧ mI S12 ∧ (∀ kk ii : Nat, ¬ kk = 16 → S12 kk ii = S6 kk ii)) → (288 + 1 - i12).toNat < fu → ∀ (H : Heap) (locs : List Loc) (ls : Array Slot), zW D (zT cI cJ cZ cP cS cM) L (zQ L sz) st (zMO cI cJ o S12 f) st.heap H locs → lv_has ls 6 [(4, .int (zI i12)), (0, .ref o), (1, .ref (o + 16)), (2, .int (zI cv)), (3, .int (zI pt))] → W pg l en ({ frames := 4, cells := 0, slots := 0, locals := 105 } : Room) st mi ag bl mt cd H locs 0 0 Q (F0 mi 12 ls []) := by
    intro fu
    induction fu with
    | zero => intro i12 S12 _ hfu; exact absurd hfu (Nat.not_lt_zero _)
    | succ fu ih12 =>
      intro i12 S12 hinv hfu12 H locs ls hW hl
      obtain ⟨⟨hlo12, hhi12⟩, hz12, hI12, hf12⟩ := hinv
      have hp12 := hI12.s10
      refine lv_iload hX0 hB0 dX12_laysLong_12 (lv_at hl 0 rfl) ?_
      refine lv_sipush (v := zI 289) hX0 hB0 dX12_laysLong_14 (by decide) ?_
      refine z_icmp_ge (tgt := 31) CX dX12_laysLong_17 (by decide) (by constructor <;> omega) (by constructor <;> omega) (fun c_17 => ?_) (fun c_17 => ?_)
      ·
        have e12 : zfor (zm_laysLong_f_L12) 0 S6 (288 + 1 - 0 : Int).toNat = S12 := by rw [show (288 + 1 - 0 : Int).toNat = (i12 - 0).toNat by omega]; exact hz12
        refine lv_iconst (v := zI 0) hX0 hB0 dX12_laysLong_31 rfl ?_
        refine lv_istore (lv' := [(4, .int (zI 0)), (0, .ref o), (1, .ref (o + 16)), (2, .int (zI cv)), (3, .int (zI pt))]) hX0 hB0 dX12_laysLong_32 hl (by decide) rfl (fun ls hl => ?_)
        have hL34 : ∀ (fu : Nat) (i34 : Int) (S34 : zS2), ((0 ≤ i34 ∧ i34 ≤ 4 + 1) ∧ zfor (zm_laysLong_f_L34) 0 S12 (i34 - 0).toNat = S34 ∧ mI S34 ∧ (∀ kk ii : Nat, ¬ kk = 16 → S34 kk ii = S12 kk ii)) → (4 + 1 - i34).toNat < fu → ∀ (H : Heap) (locs : List Loc) (ls : Array Slot), zW D (zT cI cJ cZ cP cS cM) L (zQ L sz) st (zMO cI cJ o S34 f) st.heap H locs → lv_has ls 6 [(4, .int (zI i34)), (0, .ref o), (1, .ref (o + 16)), (2, .int (zI cv)), (3, .int (zI pt))] → W pg l en ({ frames := 4, cells := 0, slots := 0, locals := 105 } : Room) st mi ag bl mt cd H locs 0 0 Q (F0 mi 34 ls []) := by
          intro fu
          induction fu with
          | zero => intro i34 S34 _ hfu; exact absurd hfu (Nat.not_lt_zero _)
          | succ fu ih34 =>
            intro i34 S34 hinv hfu34 H locs ls hW hl
            obtain ⟨⟨hlo34, hhi34⟩, hz34, hI34, hf34⟩ := hinv
            have hp34 := hI34.s10
            refine lv_iload hX0 hB0 dX12_laysLong_34 (lv_at hl 0 rfl) ?_
            refine lv_iconst (v := zI 4) hX0 hB0 dX12_laysLong_36 rfl ?_
            refine z_icmp_gt (tgt := 85) CX dX12_laysLong_37 (by decide) (by constructor <;> omega) (by constructor <;> omega) (fun c_37 => ?_) (fun c_37 => ?_)
            ·
              have e34 : zfor (zm_laysLong_f_L34) 0 S12 (4 + 1 - 0 : Int).toNat = S34 := by rw [show (4 + 1 - 0 : Int).toNat = (i34 - 0).toNat by omega]; exact hz34
              have hE : zm_laysLong_f S cv pt = S34 := by unfold zm_laysLong_f; exact zlet_e e6 (zlet_e e12 (zlet_e e34 rfl))
              have hFr : ∀ kk ii : Nat, ¬ kk = 16 ∧ ¬ (kk = 3 ∧ 3500 ≤ (ii : Int)) → S34 kk ii = S kk ii := fun kk ii hk => (((hf34 kk ii (by omega))).trans (hf12 kk ii (by omega))).trans (hf6 kk ii (by omega))
              rw [← hQ]
              exact z_vret CX hW (by rw [hE]; exact ⟨rfl, hI34, hFr, trivial⟩) dX12_laysLong_85
            ·
              refine lv_iconst (v := zI 0) hX0 hB0 dX12_laysLong_40 rfl ?_
              refine lv_istore (lv' := [(5, .int (zI 0)), (4, .int (zI i34)), (0, .ref o), (1, .ref (o + 16)), (2, .int (zI cv)), (3, .int (zI pt))]) hX0 hB0 dX12_laysLong_41 hl (by decide) rfl (fun ls hl => ?_)
              have hL43 : ∀ (fu : Nat) (i43 : Int) (S43 : zS2), ((0 ≤ i43 ∧ i43 ≤ 4 - i34 + 1) ∧ zfor (zm_laysLong_f_L43 i34) 0 S34 (i43 - 0).toNat = S43 ∧ mI S43 ∧ (∀ kk ii : Nat, ¬ kk = 16 → S43 kk ii = S34 kk ii)) → ((4 - i34) + 1 - i43).toNat < fu → ∀ (H : Heap) (locs : List Loc) (ls : Array Slot), zW D (zT cI cJ cZ cP cS cM) L (zQ L sz) st (zMO cI cJ o S43 f) st.heap H locs → lv_has ls 6 [(5, .int (zI i43)), (4, .int (zI i34)), (0, .ref o), (1, .ref (o + 16)), (2, .int (zI cv)), (3, .int (zI pt))] → W pg l en ({ frames := 4, cells := 0, slots := 0, locals := 105 } : Room) st mi ag bl mt cd H locs 0 0 Q (F0 mi 43 ls []) := by
                intro fu
                induction fu with
                | zero => intro i43 S43 _ hfu; exact absurd hfu (Nat.not_lt_zero _)
                | succ fu ih43 =>
                  intro i43 S43 hinv hfu43 H locs ls hW hl
                  obtain ⟨⟨hlo43, hhi43⟩, hz43, hI43, hf43⟩ := hinv
                  have hp43 := hI43.s10
                  refine lv_iload hX0 hB0 dX12_laysLong_43 (lv_at hl 1 rfl) ?_
                  refine lv_iload hX0 hB0 dX12_laysLong_45 (lv_at hl 0 rfl) ?_
                  refine z_iadd (z := i34 + i43) CX dX12_laysLong_47 rfl ?_
                  refine lv_iconst (v := zI 4) hX0 hB0 dX12_laysLong_48 rfl ?_
                  refine z_icmp_gt (tgt := 79) CX dX12_laysLong_49 (by decide) (by constructor <;> omega) (by constructor <;> omega) (fun c_49 => ?_) (fun c_49 => ?_)
                  ·
                    have e43 : zfor (zm_laysLong_f_L43 i34) 0 S34 ((4 - i34) + 1 - 0).toNat = S43 := by rw [show ((4 - i34) + 1 - 0).toNat = (i43 - 0).toNat by omega]; exact hz43
                    refine lv_iinc (v := zI (i34 + 1)) (lv' := [(4, .int (zI (i34 + 1))), (5, .int (zI i43)), (0, .ref o), (1, .ref (o + 16)), (2, .int (zI cv)), (3, .int (zI pt))]) hX0 hB0 dX12_laysLong_79 hl (k := 1) rfl (zI_add _ _) (by decide) rfl (fun ls hl => ?_)
                    refine lv_goto (tgt := 34) hX0 hB0 dX12_laysLong_82 (by decide) ?_
                    exact ih34 (i34 + 1) S43 ⟨⟨by omega, by omega⟩, (zfor_s _ _ _ (by omega)).trans ((congrArg (zm_laysLong_f_L34 i34) hz34).trans (by unfold zm_laysLong_f_L34; exact zlet_e e43 rfl)), hI43, fun kk ii hk => ((hf43 kk ii (by omega))).trans (hf34 kk ii (by omega))⟩ (by omega) H locs ls hW (lv_sub hl [0, 2, 3, 4, 5] rfl)
                  ·
                    refine lv_aload_n hX0 hB0 dX12_laysLong_52 rfl (lv_at hl 3 rfl) ?_
                    refine lv_bipush (v := zI 17) hX0 hB0 dX12_laysLong_53 (by decide) ?_
                    refine lv_iload hX0 hB0 dX12_laysLong_55 (lv_at hl 1 rfl) ?_
                    refine z_imul (z := 17 * i34) CX dX12_laysLong_57 rfl ?_
                    refine lv_iload hX0 hB0 dX12_laysLong_58 (lv_at hl 0 rfl) ?_
                    refine z_iadd (z := (17 * i34) + i43) CX dX12_laysLong_60 rfl ?_
                    refine lv_aload_n hX0 hB0 dX12_laysLong_61 rfl (lv_at hl 2 rfl) ?_
                    refine lv_sipush (v := zI 141) hX0 hB0 dX12_laysLong_62 (by decide) ?_
                    refine lv_iload hX0 hB0 dX12_laysLong_65 (lv_at hl 1 rfl) ?_
                    refine lv_iload hX0 hB0 dX12_laysLong_67 (lv_at hl 0 rfl) ?_
                    refine z_calli hW (va_runV (C := RX12) (As := [.int (zI 141), .int (zI i34), .int (zI i43)]) (rest := [.int (zI ((17 * i34) + i43)), .ref (o + 16)]) CX.fix (zk_cell l o S43 141 i34 i43 hI43 (by constructor <;> omega) (by constructor <;> omega) (by constructor <;> omega)) (cwV 3 CX.fix.2.2.2.2 gX12_laysLong_X12_cell rfl rfl rfl (by decide +kernel) ⟨Nat.le_of_ble_eq_true rfl, Nat.le_of_ble_eq_true rfl⟩) (z_preV CX hW (r := (RX12, TX12, 37)) zMO_0 rfl) rfl rfl hl.1 rfl (lv_room (Nat.le_of_ble_eq_true rfl)) dX12_laysLong_69 ⟨Nat.zero_le _, Nat.zero_le _⟩) (fun z69 gn H locs hok hW => ?_)
                    obtain ⟨hz69, hg, hq69⟩ := hok
                    rw [hg] at hW
                    clear hg
                    have e69 : zm_cell S43 141 i34 i43 = z69 := hz69.symm
                    clear hz69
                    obtain ⟨S72, e72⟩ : ∃ q, za S43 16 (((17 * i34) + i43).toNat) z69 = q := ⟨_, rfl⟩
                    refine z_iast CX hW zMO_16 0 rfl (by refine ⟨?_, ?_, ?_⟩ <;> omega) (g := zMO cI cJ o S72 f) (zMO_w16.trans (by rw [← e72]; rfl)) dX12_laysLong_72 (fun H locs hW => ?_)
                    have hI72 : mI S72 := e72 ▸ hI43.w16 (by constructor <;> omega)
                    refine lv_iinc (v := zI (i43 + 1)) (lv' := [(5, .int (zI (i43 + 1))), (4, .int (zI i34)), (0, .ref o), (1, .ref (o + 16)), (2, .int (zI cv)), (3, .int (zI pt))]) hX0 hB0 dX12_laysLong_73 hl (k := 0) rfl (zI_add _ _) (by decide) rfl (fun ls hl => ?_)
                    refine lv_goto (tgt := 43) hX0 hB0 dX12_laysLong_76 (by decide) ?_
                    exact ih43 (i43 + 1) S72 ⟨⟨by omega, by omega⟩, (zfor_s _ _ _ (by omega)).trans ((congrArg (zm_laysLong_f_L43 i34 i43) hz43).trans (by unfold zm_laysLong_f_L43; exact zlet_e e69 (zlet_e e72 rfl))), hI72, fun kk ii hk => ((show S72 kk ii = S43 kk ii from by rw [← e72]; exact za_ne (by omega))).trans (hf43 kk ii (by omega))⟩ (by omega) H locs ls hW (lv_sub hl [0, 1, 2, 3, 4, 5] rfl)
              exact hL43 _ 0 S34 ⟨⟨by omega, by omega⟩, zfor_0 _ _ _, hI34, fun kk ii hk => rfl⟩ (Nat.lt_succ_self _) H locs ls hW (lv_sub hl [0, 1, 2, 3, 4, 5] rfl)
        exact hL34 _ 0 S12 ⟨⟨by omega, by omega⟩, zfor_0 _ _ _, hI12, fun kk ii hk => rfl⟩ (Nat.lt_succ_self _) H locs ls hW (lv_sub hl [0, 1, 2, 3, 4] rfl)
      ·
        refine lv_aload_n hX0 hB0 dX12_laysLong_20 rfl (lv_at hl 2 rfl) ?_
        refine lv_iload hX0 hB0 dX12_laysLong_21 (lv_at hl 0 rfl) ?_
        refine lv_iconst (v := zI 0) hX0 hB0 dX12_laysLong_23 rfl ?_
        obtain ⟨S24, e24⟩ : ∃ q, za S12 16 i12.toNat 0 = q := ⟨_, rfl⟩
        refine z_iast CX hW zMO_16 0 rfl (by refine ⟨?_, ?_, ?_⟩ <;> omega) (g := zMO cI cJ o S24 f) (zMO_w16.trans (by rw [← e24]; rfl)) dX12_laysLong_24 (fun H locs hW => ?_)
        have hI24 : mI S24 := e24 ▸ hI12.w16 (by constructor <;> omega)
        refine lv_iinc (v := zI (i12 + 1)) (lv' := [(4, .int (zI (i12 + 1))), (0, .ref o), (1, .ref (o + 16)), (2, .int (zI cv)), (3, .int (zI pt))]) hX0 hB0 dX12_laysLong_25 hl (k := 0) rfl (zI_add _ _) (by decide) rfl (fun ls hl => ?_)
        refine lv_goto (tgt := 12) hX0 hB0 dX12_laysLong_28 (by decide) ?_
        exact ih12 (i12 + 1) S24 ⟨⟨by omega, by omega⟩, (zfor_s _ _ _ (by omega)).trans ((congrArg (zm_laysLong_f_L12 i12) hz12).trans (by unfold zm_laysLong_f_L12; exact zlet_e e24 rfl)), hI24, fun kk ii hk => ((show S24 kk ii = S12 kk ii from by rw [← e24]; exact za_ne (by omega))).trans (hf12 kk ii (by omega))⟩ (by omega) H locs ls hW (lv_sub hl [0, 1, 2, 3, 4] rfl)
  exact hL12 _ 0 S6 ⟨⟨by omega, by omega⟩, zfor_0 _ _ _, hI6, fun kk ii hk => rfl⟩ (Nat.lt_succ_self _) H locs ls hW (lv_sub hl [0, 1, 2, 3, 4] rfl)
def zm_leastOf_f_W2 (S : zS2) : Nat → Int → (Int) ⊕ Int
  | 0, i2 => .inr i2
  | fu2 + 1, i2 => (if 16 < i2 then .inr i2 else (if S 16 ((17 * i2).toNat) = 0 then zm_leastOf_f_W2 S fu2 (i2 + 1) else .inl (i2)))
def zm_leastOf_f (S : zS2)  : Int := zsum (zm_leastOf_f_W2 S ((19 : Nat)) 0) (fun r2 => r2) (fun i2 => -1)
set_option maxRecDepth 100000 in
set_option maxHeartbeats 4000000 in
theorem zk_leastOf_f (l : Launch) {D : va_G} {cI cJ cZ cP cS cM : ClassId} {L : List Nat} {sz : Nat} {f : Nat → va_E} (o : Nat) (S : zS2)  (hI : mI S)  : zMi l yX12_leastOf wsX12_leastOf 0 0 D (zT cI cJ cZ cP cS cM) L sz (zMO cI cJ o S f) [.ref (o + 16)] (fun zv gv => zv = zm_leastOf_f S ∧ gv = zMO cI cJ o S f ∧ -1 ≤ zv ∧ zv ≤ 16) := by
  refine zWalk.met (nL := 2) (ret := (some .int)) (cc := cX12_leastOf) (by decide) rfl (Nat.le_of_ble_eq_true rfl) ?_
  intro pg en st mi ag bl mt cd ls CX hW hl
  have CX : zC pg st mi ag mt cd cX12_leastOf 2 (some .int) RX12 wsX12_leastOf := CX
  generalize hQ : MQ bl _ ag st 0 0 _ = Q
  have hX0 := CX.1
  have hB0 := CX.2.1
  have hl : lv_has ls 2 [(0, .ref (o + 16))] := hl
  obtain ⟨H, eH⟩ : ∃ H, H = st.heap := ⟨_, rfl⟩
  obtain ⟨locs, eL⟩ : ∃ L : List Loc, L = [] := ⟨_, rfl⟩
  have hW : zW D (zT cI cJ cZ cP cS cM) L (zQ L sz) st (zMO cI cJ o S f) st.heap H locs := by rw [eH, eL]; exact hW
  suffices hgo : W pg l en ({ frames := 0, cells := 0, slots := 0, locals := 0 } : Room) st mi ag bl mt cd H locs 0 0 Q (F0 mi 0 ls []) by rw [eH, eL] at hgo; exact hgo
  clear eH eL
  have hpb := hI.s10
  refine lv_iconst (v := zI 0) hX0 hB0 dX12_leastOf_0 rfl ?_
  refine lv_istore_n (lv' := [(1, .int (zI 0)), (0, .ref (o + 16))]) hX0 hB0 dX12_leastOf_1 rfl hl (by decide) rfl (fun ls hl => ?_)
  have hXt2 : ∀ (i2 : Int), (zm_leastOf_f_W2 S ((19 : Nat)) 0 = .inr i2 ∧ 0 ≤ i2 ∧ i2 ≤ 17) → ∀ (H : Heap) (locs : List Loc) (ls : Array Slot), zW D (zT cI cJ cZ cP cS cM) L (zQ L sz) st (zMO cI cJ o S f) st.heap H locs → lv_has ls 2 [(1, .int (zI i2)), (0, .ref (o + 16))] → W pg l en ({ frames := 0, cells := 0, slots := 0, locals := 0 } : Room) st mi ag bl mt cd H locs 0 0 Q (F0 mi 25 ls []) := by
    intro i2 hinv H locs ls hW hl
    obtain ⟨e2, hai2, hbi2⟩ := hinv
    refine lv_iconst (v := zI (-1)) hX0 hB0 dX12_leastOf_25 rfl ?_
    have hE : zm_leastOf_f S = -1 := by unfold zm_leastOf_f; exact zsum_r e2 rfl
    rw [← hQ]
    exact z_iret (z := -1) CX hW (by rw [hE]; exact ⟨rfl, rfl, (show -1 ≤ (-1 : Int) ∧ (-1 : Int) ≤ 16 from by omega)⟩) rfl dX12_leastOf_26
  have hL2 : ∀ (fu : Nat) (i2 : Int), (zm_leastOf_f_W2 S ((19 : Nat)) 0 = zm_leastOf_f_W2 S fu i2 ∧ 0 ≤ i2 ∧ i2 ≤ 17) → (18 - i2).toNat < fu → ∀ (H : Heap) (locs : List Loc) (ls : Array Slot), zW D (zT cI cJ cZ cP cS cM) L (zQ L sz) st (zMO cI cJ o S f) st.heap H locs → lv_has ls 2 [(1, .int (zI i2)), (0, .ref (o + 16))] → W pg l en ({ frames := 0, cells := 0, slots := 0, locals := 0 } : Room) st mi ag bl mt cd H locs 0 0 Q (F0 mi 2 ls []) := by
    intro fu
    induction fu with
    | zero => intro i2 _ hfu; exact absurd hfu (Nat.not_lt_zero _)
    | succ fu ih2 =>
      intro i2 hinv hfu2 H locs ls hW hl
      obtain ⟨hz2, hai2, hbi2⟩ := hinv
      refine lv_iload_n hX0 hB0 dX12_leastOf_2 rfl (lv_at hl 0 rfl) ?_
      refine lv_bipush (v := zI 16) hX0 hB0 dX12_leastOf_3 (by decide) ?_
      refine z_icmp_gt (tgt := 25) CX dX12_leastOf_5 (by decide) (by constructor <;> omega) (by constructor <;> omega) (fun c_5 => ?_) (fun c_5 => ?_)
      ·
        exact hXt2 i2 ⟨hz2.trans (by rw [zm_leastOf_f_W2]; exact zif_t c_5 rfl), by omega, by omega⟩ H locs ls hW (lv_sub hl [0, 1] rfl)
      ·
        have d_5 : ¬ 16 < i2 := by omega
        refine lv_aload_n hX0 hB0 dX12_leastOf_8 rfl (lv_at hl 1 rfl) ?_
        refine lv_bipush (v := zI 17) hX0 hB0 dX12_leastOf_9 (by decide) ?_
        refine lv_iload_n hX0 hB0 dX12_leastOf_11 rfl (lv_at hl 0 rfl) ?_
        refine z_imul (z := 17 * i2) CX dX12_leastOf_12 rfl ?_
        refine z_iald (z := S 16 ((17 * i2).toNat)) CX hW zMO_16 0 rfl (by refine ⟨?_, ?_, ?_⟩ <;> omega) rfl dX12_leastOf_13 ?_
        have hr13 := hI.r16 ((17 * i2).toNat)
        refine z_if_eq (tgt := 19) CX dX12_leastOf_14 (by decide) (by constructor <;> omega) (fun c_14 => ?_) (fun c_14 => ?_)
        ·
          refine lv_iinc (v := zI (i2 + 1)) (lv' := [(1, .int (zI (i2 + 1))), (0, .ref (o + 16))]) hX0 hB0 dX12_leastOf_19 hl (k := 0) rfl (zI_add _ _) (by decide) rfl (fun ls hl => ?_)
          refine lv_goto (tgt := 2) hX0 hB0 dX12_leastOf_22 (by decide) ?_
          exact ih2 (i2 + 1) ⟨hz2.trans (by rw [zm_leastOf_f_W2]; exact zif_f d_5 (zif_t c_14 rfl)), by omega, by omega⟩ (by omega) H locs ls hW (lv_sub hl [0, 1] rfl)
        ·
          refine lv_iload_n hX0 hB0 dX12_leastOf_17 rfl (lv_at hl 0 rfl) ?_
          have hE : zm_leastOf_f S = i2 := by unfold zm_leastOf_f; exact zsum_l (hz2.trans (by rw [zm_leastOf_f_W2]; exact zif_f d_5 (zif_f c_14 rfl))) rfl
          rw [← hQ]
          exact z_iret (z := i2) CX hW (by rw [hE]; exact ⟨rfl, rfl, (show -1 ≤ i2 ∧ i2 ≤ 16 from by omega)⟩) rfl dX12_leastOf_18
  exact hL2 _ 0 ⟨rfl, by omega, by omega⟩ (by omega) H locs ls hW (lv_sub hl [0, 1] rfl)
def zm_greatestOf_f_W3 (S : zS2) : Nat → Int → (Int) ⊕ Int
  | 0, i3 => .inr i3
  | fu3 + 1, i3 => (if i3 < 0 then .inr i3 else (if S 16 ((17 * i3).toNat) = 0 then zm_greatestOf_f_W3 S fu3 (i3 + (-1)) else .inl (i3)))
def zm_greatestOf_f (S : zS2)  : Int := zsum (zm_greatestOf_f_W3 S ((19 : Nat)) 16) (fun r3 => r3) (fun i3 => -1)
set_option maxRecDepth 100000 in
set_option maxHeartbeats 4000000 in
theorem zk_greatestOf_f (l : Launch) {D : va_G} {cI cJ cZ cP cS cM : ClassId} {L : List Nat} {sz : Nat} {f : Nat → va_E} (o : Nat) (S : zS2)  (hI : mI S)  : zMi l yX12_greatestOf wsX12_greatestOf 0 0 D (zT cI cJ cZ cP cS cM) L sz (zMO cI cJ o S f) [.ref (o + 16)] (fun zv gv => zv = zm_greatestOf_f S ∧ gv = zMO cI cJ o S f ∧ -1 ≤ zv ∧ zv ≤ 16) := by
  refine zWalk.met (nL := 2) (ret := (some .int)) (cc := cX12_greatestOf) (by decide) rfl (Nat.le_of_ble_eq_true rfl) ?_
  intro pg en st mi ag bl mt cd ls CX hW hl
  have CX : zC pg st mi ag mt cd cX12_greatestOf 2 (some .int) RX12 wsX12_greatestOf := CX
  generalize hQ : MQ bl _ ag st 0 0 _ = Q
  have hX0 := CX.1
  have hB0 := CX.2.1
  have hl : lv_has ls 2 [(0, .ref (o + 16))] := hl
  obtain ⟨H, eH⟩ : ∃ H, H = st.heap := ⟨_, rfl⟩
  obtain ⟨locs, eL⟩ : ∃ L : List Loc, L = [] := ⟨_, rfl⟩
  have hW : zW D (zT cI cJ cZ cP cS cM) L (zQ L sz) st (zMO cI cJ o S f) st.heap H locs := by rw [eH, eL]; exact hW
  suffices hgo : W pg l en ({ frames := 0, cells := 0, slots := 0, locals := 0 } : Room) st mi ag bl mt cd H locs 0 0 Q (F0 mi 0 ls []) by rw [eH, eL] at hgo; exact hgo
  clear eH eL
  have hpb := hI.s10
  refine lv_bipush (v := zI 16) hX0 hB0 dX12_greatestOf_0 (by decide) ?_
  refine lv_istore_n (lv' := [(1, .int (zI 16)), (0, .ref (o + 16))]) hX0 hB0 dX12_greatestOf_2 rfl hl (by decide) rfl (fun ls hl => ?_)
  have hXt3 : ∀ (i3 : Int), (zm_greatestOf_f_W3 S ((19 : Nat)) 16 = .inr i3 ∧ -1 ≤ i3 ∧ i3 ≤ 16) → ∀ (H : Heap) (locs : List Loc) (ls : Array Slot), zW D (zT cI cJ cZ cP cS cM) L (zQ L sz) st (zMO cI cJ o S f) st.heap H locs → lv_has ls 2 [(1, .int (zI i3)), (0, .ref (o + 16))] → W pg l en ({ frames := 0, cells := 0, slots := 0, locals := 0 } : Room) st mi ag bl mt cd H locs 0 0 Q (F0 mi 24 ls []) := by
    intro i3 hinv H locs ls hW hl
    obtain ⟨e3, hai3, hbi3⟩ := hinv
    refine lv_iconst (v := zI (-1)) hX0 hB0 dX12_greatestOf_24 rfl ?_
    have hE : zm_greatestOf_f S = -1 := by unfold zm_greatestOf_f; exact zsum_r e3 rfl
    rw [← hQ]
    exact z_iret (z := -1) CX hW (by rw [hE]; exact ⟨rfl, rfl, (show -1 ≤ (-1 : Int) ∧ (-1 : Int) ≤ 16 from by omega)⟩) rfl dX12_greatestOf_25
  have hL3 : ∀ (fu : Nat) (i3 : Int), (zm_greatestOf_f_W3 S ((19 : Nat)) 16 = zm_greatestOf_f_W3 S fu i3 ∧ -1 ≤ i3 ∧ i3 ≤ 16) → (i3 + 1).toNat < fu → ∀ (H : Heap) (locs : List Loc) (ls : Array Slot), zW D (zT cI cJ cZ cP cS cM) L (zQ L sz) st (zMO cI cJ o S f) st.heap H locs → lv_has ls 2 [(1, .int (zI i3)), (0, .ref (o + 16))] → W pg l en ({ frames := 0, cells := 0, slots := 0, locals := 0 } : Room) st mi ag bl mt cd H locs 0 0 Q (F0 mi 3 ls []) := by
    intro fu
    induction fu with
    | zero => intro i3 _ hfu; exact absurd hfu (Nat.not_lt_zero _)
    | succ fu ih3 =>
      intro i3 hinv hfu3 H locs ls hW hl
      obtain ⟨hz3, hai3, hbi3⟩ := hinv
      refine lv_iload_n hX0 hB0 dX12_greatestOf_3 rfl (lv_at hl 0 rfl) ?_
      refine z_if_lt (tgt := 24) CX dX12_greatestOf_4 (by decide) (by constructor <;> omega) (fun c_4 => ?_) (fun c_4 => ?_)
      ·
        exact hXt3 i3 ⟨hz3.trans (by rw [zm_greatestOf_f_W3]; exact zif_t c_4 rfl), by omega, by omega⟩ H locs ls hW (lv_sub hl [0, 1] rfl)
      ·
        have d_4 : ¬ i3 < 0 := by omega
        refine lv_aload_n hX0 hB0 dX12_greatestOf_7 rfl (lv_at hl 1 rfl) ?_
        refine lv_bipush (v := zI 17) hX0 hB0 dX12_greatestOf_8 (by decide) ?_
        refine lv_iload_n hX0 hB0 dX12_greatestOf_10 rfl (lv_at hl 0 rfl) ?_
        refine z_imul (z := 17 * i3) CX dX12_greatestOf_11 rfl ?_
        refine z_iald (z := S 16 ((17 * i3).toNat)) CX hW zMO_16 0 rfl (by refine ⟨?_, ?_, ?_⟩ <;> omega) rfl dX12_greatestOf_12 ?_
        have hr12 := hI.r16 ((17 * i3).toNat)
        refine z_if_eq (tgt := 18) CX dX12_greatestOf_13 (by decide) (by constructor <;> omega) (fun c_13 => ?_) (fun c_13 => ?_)
        ·
          refine lv_iinc (v := zI (i3 + (-1))) (lv' := [(1, .int (zI (i3 + (-1)))), (0, .ref (o + 16))]) hX0 hB0 dX12_greatestOf_18 hl (k := 0) rfl (zI_add _ _) (by decide) rfl (fun ls hl => ?_)
          refine lv_goto (tgt := 3) hX0 hB0 dX12_greatestOf_21 (by decide) ?_
          exact ih3 (i3 + (-1)) ⟨hz3.trans (by rw [zm_greatestOf_f_W3]; exact zif_f d_4 (zif_t c_13 rfl)), by omega, by omega⟩ (by omega) H locs ls hW (lv_sub hl [0, 1] rfl)
        ·
          refine lv_iload_n hX0 hB0 dX12_greatestOf_16 rfl (lv_at hl 0 rfl) ?_
          have hE : zm_greatestOf_f S = i3 := by unfold zm_greatestOf_f; exact zsum_l (hz3.trans (by rw [zm_greatestOf_f_W3]; exact zif_f d_4 (zif_f c_13 rfl))) rfl
          rw [← hQ]
          exact z_iret (z := i3) CX hW (by rw [hE]; exact ⟨rfl, rfl, (show -1 ≤ i3 ∧ i3 ≤ 16 from by omega)⟩) rfl dX12_greatestOf_17
  exact hL3 _ 16 ⟨rfl, by omega, by omega⟩ (by omega) H locs ls hW (lv_sub hl [0, 1] rfl)
def zm_laysLong_g_L12  : Int → zS2 → zS2 := fun i12 s12 => (fun (S12 : zS2) => zlet (za S12 17 i12.toNat 0) (fun S24 => S24)) s12
def zm_laysLong_g_L43 (i34 : Int) : Int → zS2 → zS2 := fun i43 s43 => (fun (S43 : zS2) => zlet (zm_cell S43 141 i34 i43) (fun z69 => zlet (za S43 17 (((17 * i34) + i43).toNat) z69) (fun S72 => S72))) s43
def zm_laysLong_g_L34  : Int → zS2 → zS2 := fun i34 s34 => (fun (S34 : zS2) => zlet (zfor (zm_laysLong_g_L43 i34) 0 S34 ((4 - i34) + 1 - 0).toNat) (fun S43 => S43)) s34
def zm_laysLong_g (S : zS2) (cv : Int) (pt : Int) : zS2 := zlet (zm_laysLocal S 141 cv pt) (fun S6 => zlet (zfor (zm_laysLong_g_L12) 0 S6 (288 + 1 - 0 : Int).toNat) (fun S12 => zlet (zfor (zm_laysLong_g_L34) 0 S12 (4 + 1 - 0 : Int).toNat) (fun S34 => S34)))
set_option maxRecDepth 100000 in
set_option maxHeartbeats 4000000 in
theorem zk_laysLong_g (l : Launch) {D : va_G} {cI cJ cZ cP cS cM : ClassId} {L : List Nat} {sz : Nat} {f : Nat → va_E} (o : Nat) (S : zS2) (cv : Int) (pt : Int) (hI : mI S) (hcv : 0 ≤ cv ∧ cv ≤ 238) (hpt : 0 ≤ pt ∧ pt ≤ 992) : zMv l yX12_laysLong wsX12_laysLong 4 105 D (zT cI cJ cZ cP cS cM) L sz (zMO cI cJ o S f) [.ref o, .ref (o + 17), .int (zI cv), .int (zI pt)] (fun gv => gv = zMO cI cJ o (zm_laysLong_g S cv pt) f ∧ mI (zm_laysLong_g S cv pt) ∧ (∀ kk ii : Nat, ¬ kk = 17 ∧ ¬ (kk = 3 ∧ 3500 ≤ (ii : Int)) → (zm_laysLong_g S cv pt) kk ii = S kk ii) ∧ True) := by
  refine zWalk.met (nL := 6) (ret := none) (cc := cX12_laysLong) (by decide) rfl (Nat.le_of_ble_eq_true rfl) ?_
  intro pg en st mi ag bl mt cd ls CX hW hl
  have CX : zC pg st mi ag mt cd cX12_laysLong 6 none RX12 wsX12_laysLong := CX
  generalize hQ : MQ bl _ ag st 0 0 _ = Q
  have hX0 := CX.1
  have hB0 := CX.2.1
  have hl : lv_has ls 6 [(0, .ref o), (1, .ref (o + 17)), (2, .int (zI cv)), (3, .int (zI pt))] := hl
  obtain ⟨H, eH⟩ : ∃ H, H = st.heap := ⟨_, rfl⟩
  obtain ⟨locs, eL⟩ : ∃ L : List Loc, L = [] := ⟨_, rfl⟩
  have hW : zW D (zT cI cJ cZ cP cS cM) L (zQ L sz) st (zMO cI cJ o S f) st.heap H locs := by rw [eH, eL]; exact hW
  suffices hgo : W pg l en ({ frames := 4, cells := 0, slots := 0, locals := 105 } : Room) st mi ag bl mt cd H locs 0 0 Q (F0 mi 0 ls []) by rw [eH, eL] at hgo; exact hgo
  clear eH eL
  have hpb := hI.s10
  refine lv_aload_n hX0 hB0 dX12_laysLong_0 rfl (lv_at hl 0 rfl) ?_
  refine lv_sipush (v := zI 141) hX0 hB0 dX12_laysLong_1 (by decide) ?_
  refine lv_iload_n hX0 hB0 dX12_laysLong_4 rfl (lv_at hl 2 rfl) ?_
  refine lv_iload_n hX0 hB0 dX12_laysLong_5 rfl (lv_at hl 3 rfl) ?_
  refine z_callv hW (va_runV (C := RX12) (As := [.int (zI 141), .int (zI cv), .int (zI pt)]) (rest := []) CX.fix (zk_laysLocal l o S 141 cv pt hI (by constructor <;> omega) (by constructor <;> omega) (by constructor <;> omega)) (cwV 3 CX.fix.2.2.2.2 gX12_laysLong_X12_laysLocal rfl rfl rfl (by decide +kernel) ⟨Nat.le_of_ble_eq_true rfl, Nat.le_of_ble_eq_true rfl⟩) (z_preV CX hW (r := (RX12, TX12, 37)) zMO_0 rfl) rfl rfl hl.1 rfl (lv_room (Nat.le_of_ble_eq_true rfl)) dX12_laysLong_6 ⟨Nat.zero_le _, Nat.zero_le _⟩) (fun gn H locs hok hW => ?_)
  obtain ⟨hg, hI6, hf6, hq6⟩ := hok
  obtain ⟨S6, e6⟩ : ∃ q, zm_laysLocal S 141 cv pt = q := ⟨_, rfl⟩
  rw [e6] at hg hI6 hf6
  skip
  try rw [e6] at hq6
  rw [hg] at hW
  clear hg
  refine lv_iconst (v := zI 0) hX0 hB0 dX12_laysLong_9 rfl ?_
  refine lv_istore (lv' := [(4, .int (zI 0)), (0, .ref o), (1, .ref (o + 17)), (2, .int (zI cv)), (3, .int (zI pt))]) hX0 hB0 dX12_laysLong_10 hl (by decide) rfl (fun ls hl => ?_)
  have hL12 : ∀ (fu : Nat) (i12 : Int) (S12 : zS2), ((0 ≤ i12 ∧ i12 ≤ 288 + 1) ∧ zfor (zm_laysLong_g_L12) 0 S6 (i12 - 0).toNat = S12 ∧ mI S12 ∧ (∀ kk ii : Nat, ¬ kk = 17 → S12 kk ii = S6 kk ii)) → (288 + 1 - i12).toNat < fu → ∀ (H : Heap) (locs : List Loc) (ls : Array Slot), zW D (zT cI cJ cZ cP cS cM) L (zQ L sz) st (zMO cI cJ o S12 f) st.heap H locs → lv_has ls 6 [(4, .int (zI i12)), (0, .ref o), (1, .ref (o + 17)), (2, .int (zI cv)), (3, .int (zI pt))] → W pg l en ({ frames := 4, cells := 0, slots := 0, locals := 105 } : Room) st mi ag bl mt cd H locs 0 0 Q (F0 mi 12 ls []) := by
    intro fu
    induction fu with
    | zero => intro i12 S12 _ hfu; exact absurd hfu (Nat.not_lt_zero _)
    | succ fu ih12 =>
      intro i12 S12 hinv hfu12 H locs ls hW hl
      obtain ⟨⟨hlo12, hhi12⟩, hz12, hI12, hf12⟩ := hinv
      have hp12 := hI12.s10
      refine lv_iload hX0 hB0 dX12_laysLong_12 (lv_at hl 0 rfl) ?_
      refine lv_sipush (v := zI 289) hX0 hB0 dX12_laysLong_14 (by decide) ?_
      refine z_icmp_ge (tgt := 31) CX dX12_laysLong_17 (by decide) (by constructor <;> omega) (by constructor <;> omega) (fun c_17 => ?_) (fun c_17 => ?_)
      ·
        have e12 : zfor (zm_laysLong_g_L12) 0 S6 (288 + 1 - 0 : Int).toNat = S12 := by rw [show (288 + 1 - 0 : Int).toNat = (i12 - 0).toNat by omega]; exact hz12
        refine lv_iconst (v := zI 0) hX0 hB0 dX12_laysLong_31 rfl ?_
        refine lv_istore (lv' := [(4, .int (zI 0)), (0, .ref o), (1, .ref (o + 17)), (2, .int (zI cv)), (3, .int (zI pt))]) hX0 hB0 dX12_laysLong_32 hl (by decide) rfl (fun ls hl => ?_)
        have hL34 : ∀ (fu : Nat) (i34 : Int) (S34 : zS2), ((0 ≤ i34 ∧ i34 ≤ 4 + 1) ∧ zfor (zm_laysLong_g_L34) 0 S12 (i34 - 0).toNat = S34 ∧ mI S34 ∧ (∀ kk ii : Nat, ¬ kk = 17 → S34 kk ii = S12 kk ii)) → (4 + 1 - i34).toNat < fu → ∀ (H : Heap) (locs : List Loc) (ls : Array Slot), zW D (zT cI cJ cZ cP cS cM) L (zQ L sz) st (zMO cI cJ o S34 f) st.heap H locs → lv_has ls 6 [(4, .int (zI i34)), (0, .ref o), (1, .ref (o + 17)), (2, .int (zI cv)), (3, .int (zI pt))] → W pg l en ({ frames := 4, cells := 0, slots := 0, locals := 105 } : Room) st mi ag bl mt cd H locs 0 0 Q (F0 mi 34 ls []) := by
          intro fu
          induction fu with
          | zero => intro i34 S34 _ hfu; exact absurd hfu (Nat.not_lt_zero _)
          | succ fu ih34 =>
            intro i34 S34 hinv hfu34 H locs ls hW hl
            obtain ⟨⟨hlo34, hhi34⟩, hz34, hI34, hf34⟩ := hinv
            have hp34 := hI34.s10
            refine lv_iload hX0 hB0 dX12_laysLong_34 (lv_at hl 0 rfl) ?_
            refine lv_iconst (v := zI 4) hX0 hB0 dX12_laysLong_36 rfl ?_
            refine z_icmp_gt (tgt := 85) CX dX12_laysLong_37 (by decide) (by constructor <;> omega) (by constructor <;> omega) (fun c_37 => ?_) (fun c_37 => ?_)
            ·
              have e34 : zfor (zm_laysLong_g_L34) 0 S12 (4 + 1 - 0 : Int).toNat = S34 := by rw [show (4 + 1 - 0 : Int).toNat = (i34 - 0).toNat by omega]; exact hz34
              have hE : zm_laysLong_g S cv pt = S34 := by unfold zm_laysLong_g; exact zlet_e e6 (zlet_e e12 (zlet_e e34 rfl))
              have hFr : ∀ kk ii : Nat, ¬ kk = 17 ∧ ¬ (kk = 3 ∧ 3500 ≤ (ii : Int)) → S34 kk ii = S kk ii := fun kk ii hk => (((hf34 kk ii (by omega))).trans (hf12 kk ii (by omega))).trans (hf6 kk ii (by omega))
              rw [← hQ]
              exact z_vret CX hW (by rw [hE]; exact ⟨rfl, hI34, hFr, trivial⟩) dX12_laysLong_85
            ·
              refine lv_iconst (v := zI 0) hX0 hB0 dX12_laysLong_40 rfl ?_
              refine lv_istore (lv' := [(5, .int (zI 0)), (4, .int (zI i34)), (0, .ref o), (1, .ref (o + 17)), (2, .int (zI cv)), (3, .int (zI pt))]) hX0 hB0 dX12_laysLong_41 hl (by decide) rfl (fun ls hl => ?_)
              have hL43 : ∀ (fu : Nat) (i43 : Int) (S43 : zS2), ((0 ≤ i43 ∧ i43 ≤ 4 - i34 + 1) ∧ zfor (zm_laysLong_g_L43 i34) 0 S34 (i43 - 0).toNat = S43 ∧ mI S43 ∧ (∀ kk ii : Nat, ¬ kk = 17 → S43 kk ii = S34 kk ii)) → ((4 - i34) + 1 - i43).toNat < fu → ∀ (H : Heap) (locs : List Loc) (ls : Array Slot), zW D (zT cI cJ cZ cP cS cM) L (zQ L sz) st (zMO cI cJ o S43 f) st.heap H locs → lv_has ls 6 [(5, .int (zI i43)), (4, .int (zI i34)), (0, .ref o), (1, .ref (o + 17)), (2, .int (zI cv)), (3, .int (zI pt))] → W pg l en ({ frames := 4, cells := 0, slots := 0, locals := 105 } : Room) st mi ag bl mt cd H locs 0 0 Q (F0 mi 43 ls []) := by
                intro fu
                induction fu with
                | zero => intro i43 S43 _ hfu; exact absurd hfu (Nat.not_lt_zero _)
                | succ fu ih43 =>
                  intro i43 S43 hinv hfu43 H locs ls hW hl
                  obtain ⟨⟨hlo43, hhi43⟩, hz43, hI43, hf43⟩ := hinv
                  have hp43 := hI43.s10
                  refine lv_iload hX0 hB0 dX12_laysLong_43 (lv_at hl 1 rfl) ?_
                  refine lv_iload hX0 hB0 dX12_laysLong_45 (lv_at hl 0 rfl) ?_
                  refine z_iadd (z := i34 + i43) CX dX12_laysLong_47 rfl ?_
                  refine lv_iconst (v := zI 4) hX0 hB0 dX12_laysLong_48 rfl ?_
                  refine z_icmp_gt (tgt := 79) CX dX12_laysLong_49 (by decide) (by constructor <;> omega) (by constructor <;> omega) (fun c_49 => ?_) (fun c_49 => ?_)
                  ·
                    have e43 : zfor (zm_laysLong_g_L43 i34) 0 S34 ((4 - i34) + 1 - 0).toNat = S43 := by rw [show ((4 - i34) + 1 - 0).toNat = (i43 - 0).toNat by omega]; exact hz43
                    refine lv_iinc (v := zI (i34 + 1)) (lv' := [(4, .int (zI (i34 + 1))), (5, .int (zI i43)), (0, .ref o), (1, .ref (o + 17)), (2, .int (zI cv)), (3, .int (zI pt))]) hX0 hB0 dX12_laysLong_79 hl (k := 1) rfl (zI_add _ _) (by decide) rfl (fun ls hl => ?_)
                    refine lv_goto (tgt := 34) hX0 hB0 dX12_laysLong_82 (by decide) ?_
                    exact ih34 (i34 + 1) S43 ⟨⟨by omega, by omega⟩, (zfor_s _ _ _ (by omega)).trans ((congrArg (zm_laysLong_g_L34 i34) hz34).trans (by unfold zm_laysLong_g_L34; exact zlet_e e43 rfl)), hI43, fun kk ii hk => ((hf43 kk ii (by omega))).trans (hf34 kk ii (by omega))⟩ (by omega) H locs ls hW (lv_sub hl [0, 2, 3, 4, 5] rfl)
                  ·
                    refine lv_aload_n hX0 hB0 dX12_laysLong_52 rfl (lv_at hl 3 rfl) ?_
                    refine lv_bipush (v := zI 17) hX0 hB0 dX12_laysLong_53 (by decide) ?_
                    refine lv_iload hX0 hB0 dX12_laysLong_55 (lv_at hl 1 rfl) ?_
                    refine z_imul (z := 17 * i34) CX dX12_laysLong_57 rfl ?_
                    refine lv_iload hX0 hB0 dX12_laysLong_58 (lv_at hl 0 rfl) ?_
                    refine z_iadd (z := (17 * i34) + i43) CX dX12_laysLong_60 rfl ?_
                    refine lv_aload_n hX0 hB0 dX12_laysLong_61 rfl (lv_at hl 2 rfl) ?_
                    refine lv_sipush (v := zI 141) hX0 hB0 dX12_laysLong_62 (by decide) ?_
                    refine lv_iload hX0 hB0 dX12_laysLong_65 (lv_at hl 1 rfl) ?_
                    refine lv_iload hX0 hB0 dX12_laysLong_67 (lv_at hl 0 rfl) ?_
                    refine z_calli hW (va_runV (C := RX12) (As := [.int (zI 141), .int (zI i34), .int (zI i43)]) (rest := [.int (zI ((17 * i34) + i43)), .ref (o + 17)]) CX.fix (zk_cell l o S43 141 i34 i43 hI43 (by constructor <;> omega) (by constructor <;> omega) (by constructor <;> omega)) (cwV 3 CX.fix.2.2.2.2 gX12_laysLong_X12_cell rfl rfl rfl (by decide +kernel) ⟨Nat.le_of_ble_eq_true rfl, Nat.le_of_ble_eq_true rfl⟩) (z_preV CX hW (r := (RX12, TX12, 37)) zMO_0 rfl) rfl rfl hl.1 rfl (lv_room (Nat.le_of_ble_eq_true rfl)) dX12_laysLong_69 ⟨Nat.zero_le _, Nat.zero_le _⟩) (fun z69 gn H locs hok hW => ?_)
                    obtain ⟨hz69, hg, hq69⟩ := hok
                    rw [hg] at hW
                    clear hg
                    have e69 : zm_cell S43 141 i34 i43 = z69 := hz69.symm
                    clear hz69
                    obtain ⟨S72, e72⟩ : ∃ q, za S43 17 (((17 * i34) + i43).toNat) z69 = q := ⟨_, rfl⟩
                    refine z_iast CX hW zMO_17 0 rfl (by refine ⟨?_, ?_, ?_⟩ <;> omega) (g := zMO cI cJ o S72 f) (zMO_w17.trans (by rw [← e72]; rfl)) dX12_laysLong_72 (fun H locs hW => ?_)
                    have hI72 : mI S72 := e72 ▸ hI43.w17 (by constructor <;> omega)
                    refine lv_iinc (v := zI (i43 + 1)) (lv' := [(5, .int (zI (i43 + 1))), (4, .int (zI i34)), (0, .ref o), (1, .ref (o + 17)), (2, .int (zI cv)), (3, .int (zI pt))]) hX0 hB0 dX12_laysLong_73 hl (k := 0) rfl (zI_add _ _) (by decide) rfl (fun ls hl => ?_)
                    refine lv_goto (tgt := 43) hX0 hB0 dX12_laysLong_76 (by decide) ?_
                    exact ih43 (i43 + 1) S72 ⟨⟨by omega, by omega⟩, (zfor_s _ _ _ (by omega)).trans ((congrArg (zm_laysLong_g_L43 i34 i43) hz43).trans (by unfold zm_laysLong_g_L43; exact zlet_e e69 (zlet_e e72 rfl))), hI72, fun kk ii hk => ((show S72 kk ii = S43 kk ii from by rw [← e72]; exact za_ne (by omega))).trans (hf43 kk ii (by omega))⟩ (by omega) H locs ls hW (lv_sub hl [0, 1, 2, 3, 4, 5] rfl)
              exact hL43 _ 0 S34 ⟨⟨by omega, by omega⟩, zfor_0 _ _ _, hI34, fun kk ii hk => rfl⟩ (Nat.lt_succ_self _) H locs ls hW (lv_sub hl [0, 1, 2, 3, 4, 5] rfl)
        exact hL34 _ 0 S12 ⟨⟨by omega, by omega⟩, zfor_0 _ _ _, hI12, fun kk ii hk => rfl⟩ (Nat.lt_succ_self _) H locs ls hW (lv_sub hl [0, 1, 2, 3, 4] rfl)
      ·
        refine lv_aload_n hX0 hB0 dX12_laysLong_20 rfl (lv_at hl 2 rfl) ?_
        refine lv_iload hX0 hB0 dX12_laysLong_21 (lv_at hl 0 rfl) ?_
        refine lv_iconst (v := zI 0) hX0 hB0 dX12_laysLong_23 rfl ?_
        obtain ⟨S24, e24⟩ : ∃ q, za S12 17 i12.toNat 0 = q := ⟨_, rfl⟩
        refine z_iast CX hW zMO_17 0 rfl (by refine ⟨?_, ?_, ?_⟩ <;> omega) (g := zMO cI cJ o S24 f) (zMO_w17.trans (by rw [← e24]; rfl)) dX12_laysLong_24 (fun H locs hW => ?_)
        have hI24 : mI S24 := e24 ▸ hI12.w17 (by constructor <;> omega)
        refine lv_iinc (v := zI (i12 + 1)) (lv' := [(4, .int (zI (i12 + 1))), (0, .ref o), (1, .ref (o + 17)), (2, .int (zI cv)), (3, .int (zI pt))]) hX0 hB0 dX12_laysLong_25 hl (k := 0) rfl (zI_add _ _) (by decide) rfl (fun ls hl => ?_)
        refine lv_goto (tgt := 12) hX0 hB0 dX12_laysLong_28 (by decide) ?_
        exact ih12 (i12 + 1) S24 ⟨⟨by omega, by omega⟩, (zfor_s _ _ _ (by omega)).trans ((congrArg (zm_laysLong_g_L12 i12) hz12).trans (by unfold zm_laysLong_g_L12; exact zlet_e e24 rfl)), hI24, fun kk ii hk => ((show S24 kk ii = S12 kk ii from by rw [← e24]; exact za_ne (by omega))).trans (hf12 kk ii (by omega))⟩ (by omega) H locs ls hW (lv_sub hl [0, 1, 2, 3, 4] rfl)
  exact hL12 _ 0 S6 ⟨⟨by omega, by omega⟩, zfor_0 _ _ _, hI6, fun kk ii hk => rfl⟩ (Nat.lt_succ_self _) H locs ls hW (lv_sub hl [0, 1, 2, 3, 4] rfl)
def zm_leastOf_g_W2 (S : zS2) : Nat → Int → (Int) ⊕ Int
  | 0, i2 => .inr i2
  | fu2 + 1, i2 => (if 16 < i2 then .inr i2 else (if S 17 ((17 * i2).toNat) = 0 then zm_leastOf_g_W2 S fu2 (i2 + 1) else .inl (i2)))
def zm_leastOf_g (S : zS2)  : Int := zsum (zm_leastOf_g_W2 S ((19 : Nat)) 0) (fun r2 => r2) (fun i2 => -1)
set_option maxRecDepth 100000 in
set_option maxHeartbeats 4000000 in
theorem zk_leastOf_g (l : Launch) {D : va_G} {cI cJ cZ cP cS cM : ClassId} {L : List Nat} {sz : Nat} {f : Nat → va_E} (o : Nat) (S : zS2)  (hI : mI S)  : zMi l yX12_leastOf wsX12_leastOf 0 0 D (zT cI cJ cZ cP cS cM) L sz (zMO cI cJ o S f) [.ref (o + 17)] (fun zv gv => zv = zm_leastOf_g S ∧ gv = zMO cI cJ o S f ∧ -1 ≤ zv ∧ zv ≤ 16) := by
  refine zWalk.met (nL := 2) (ret := (some .int)) (cc := cX12_leastOf) (by decide) rfl (Nat.le_of_ble_eq_true rfl) ?_
  intro pg en st mi ag bl mt cd ls CX hW hl
  have CX : zC pg st mi ag mt cd cX12_leastOf 2 (some .int) RX12 wsX12_leastOf := CX
  generalize hQ : MQ bl _ ag st 0 0 _ = Q
  have hX0 := CX.1
  have hB0 := CX.2.1
  have hl : lv_has ls 2 [(0, .ref (o + 17))] := hl
  obtain ⟨H, eH⟩ : ∃ H, H = st.heap := ⟨_, rfl⟩
  obtain ⟨locs, eL⟩ : ∃ L : List Loc, L = [] := ⟨_, rfl⟩
  have hW : zW D (zT cI cJ cZ cP cS cM) L (zQ L sz) st (zMO cI cJ o S f) st.heap H locs := by rw [eH, eL]; exact hW
  suffices hgo : W pg l en ({ frames := 0, cells := 0, slots := 0, locals := 0 } : Room) st mi ag bl mt cd H locs 0 0 Q (F0 mi 0 ls []) by rw [eH, eL] at hgo; exact hgo
  clear eH eL
  have hpb := hI.s10
  refine lv_iconst (v := zI 0) hX0 hB0 dX12_leastOf_0 rfl ?_
  refine lv_istore_n (lv' := [(1, .int (zI 0)), (0, .ref (o + 17))]) hX0 hB0 dX12_leastOf_1 rfl hl (by decide) rfl (fun ls hl => ?_)
  have hXt2 : ∀ (i2 : Int), (zm_leastOf_g_W2 S ((19 : Nat)) 0 = .inr i2 ∧ 0 ≤ i2 ∧ i2 ≤ 17) → ∀ (H : Heap) (locs : List Loc) (ls : Array Slot), zW D (zT cI cJ cZ cP cS cM) L (zQ L sz) st (zMO cI cJ o S f) st.heap H locs → lv_has ls 2 [(1, .int (zI i2)), (0, .ref (o + 17))] → W pg l en ({ frames := 0, cells := 0, slots := 0, locals := 0 } : Room) st mi ag bl mt cd H locs 0 0 Q (F0 mi 25 ls []) := by
    intro i2 hinv H locs ls hW hl
    obtain ⟨e2, hai2, hbi2⟩ := hinv
    refine lv_iconst (v := zI (-1)) hX0 hB0 dX12_leastOf_25 rfl ?_
    have hE : zm_leastOf_g S = -1 := by unfold zm_leastOf_g; exact zsum_r e2 rfl
    rw [← hQ]
    exact z_iret (z := -1) CX hW (by rw [hE]; exact ⟨rfl, rfl, (show -1 ≤ (-1 : Int) ∧ (-1 : Int) ≤ 16 from by omega)⟩) rfl dX12_leastOf_26
  have hL2 : ∀ (fu : Nat) (i2 : Int), (zm_leastOf_g_W2 S ((19 : Nat)) 0 = zm_leastOf_g_W2 S fu i2 ∧ 0 ≤ i2 ∧ i2 ≤ 17) → (18 - i2).toNat < fu → ∀ (H : Heap) (locs : List Loc) (ls : Array Slot), zW D (zT cI cJ cZ cP cS cM) L (zQ L sz) st (zMO cI cJ o S f) st.heap H locs → lv_has ls 2 [(1, .int (zI i2)), (0, .ref (o + 17))] → W pg l en ({ frames := 0, cells := 0, slots := 0, locals := 0 } : Room) st mi ag bl mt cd H locs 0 0 Q (F0 mi 2 ls []) := by
    intro fu
    induction fu with
    | zero => intro i2 _ hfu; exact absurd hfu (Nat.not_lt_zero _)
    | succ fu ih2 =>
      intro i2 hinv hfu2 H locs ls hW hl
      obtain ⟨hz2, hai2, hbi2⟩ := hinv
      refine lv_iload_n hX0 hB0 dX12_leastOf_2 rfl (lv_at hl 0 rfl) ?_
      refine lv_bipush (v := zI 16) hX0 hB0 dX12_leastOf_3 (by decide) ?_
      refine z_icmp_gt (tgt := 25) CX dX12_leastOf_5 (by decide) (by constructor <;> omega) (by constructor <;> omega) (fun c_5 => ?_) (fun c_5 => ?_)
      ·
        exact hXt2 i2 ⟨hz2.trans (by rw [zm_leastOf_g_W2]; exact zif_t c_5 rfl), by omega, by omega⟩ H locs ls hW (lv_sub hl [0, 1] rfl)
      ·
        have d_5 : ¬ 16 < i2 := by omega
        refine lv_aload_n hX0 hB0 dX12_leastOf_8 rfl (lv_at hl 1 rfl) ?_
        refine lv_bipush (v := zI 17) hX0 hB0 dX12_leastOf_9 (by decide) ?_
        refine lv_iload_n hX0 hB0 dX12_leastOf_11 rfl (lv_at hl 0 rfl) ?_
        refine z_imul (z := 17 * i2) CX dX12_leastOf_12 rfl ?_
        refine z_iald (z := S 17 ((17 * i2).toNat)) CX hW zMO_17 0 rfl (by refine ⟨?_, ?_, ?_⟩ <;> omega) rfl dX12_leastOf_13 ?_
        have hr13 := hI.r17 ((17 * i2).toNat)
        refine z_if_eq (tgt := 19) CX dX12_leastOf_14 (by decide) (by constructor <;> omega) (fun c_14 => ?_) (fun c_14 => ?_)
        ·
          refine lv_iinc (v := zI (i2 + 1)) (lv' := [(1, .int (zI (i2 + 1))), (0, .ref (o + 17))]) hX0 hB0 dX12_leastOf_19 hl (k := 0) rfl (zI_add _ _) (by decide) rfl (fun ls hl => ?_)
          refine lv_goto (tgt := 2) hX0 hB0 dX12_leastOf_22 (by decide) ?_
          exact ih2 (i2 + 1) ⟨hz2.trans (by rw [zm_leastOf_g_W2]; exact zif_f d_5 (zif_t c_14 rfl)), by omega, by omega⟩ (by omega) H locs ls hW (lv_sub hl [0, 1] rfl)
        ·
          refine lv_iload_n hX0 hB0 dX12_leastOf_17 rfl (lv_at hl 0 rfl) ?_
          have hE : zm_leastOf_g S = i2 := by unfold zm_leastOf_g; exact zsum_l (hz2.trans (by rw [zm_leastOf_g_W2]; exact zif_f d_5 (zif_f c_14 rfl))) rfl
          rw [← hQ]
          exact z_iret (z := i2) CX hW (by rw [hE]; exact ⟨rfl, rfl, (show -1 ≤ i2 ∧ i2 ≤ 16 from by omega)⟩) rfl dX12_leastOf_18
  exact hL2 _ 0 ⟨rfl, by omega, by omega⟩ (by omega) H locs ls hW (lv_sub hl [0, 1] rfl)
def zm_greatestOf_g_W3 (S : zS2) : Nat → Int → (Int) ⊕ Int
  | 0, i3 => .inr i3
  | fu3 + 1, i3 => (if i3 < 0 then .inr i3 else (if S 17 ((17 * i3).toNat) = 0 then zm_greatestOf_g_W3 S fu3 (i3 + (-1)) else .inl (i3)))
def zm_greatestOf_g (S : zS2)  : Int := zsum (zm_greatestOf_g_W3 S ((19 : Nat)) 16) (fun r3 => r3) (fun i3 => -1)
set_option maxRecDepth 100000 in
set_option maxHeartbeats 4000000 in
theorem zk_greatestOf_g (l : Launch) {D : va_G} {cI cJ cZ cP cS cM : ClassId} {L : List Nat} {sz : Nat} {f : Nat → va_E} (o : Nat) (S : zS2)  (hI : mI S)  : zMi l yX12_greatestOf wsX12_greatestOf 0 0 D (zT cI cJ cZ cP cS cM) L sz (zMO cI cJ o S f) [.ref (o + 17)] (fun zv gv => zv = zm_greatestOf_g S ∧ gv = zMO cI cJ o S f ∧ -1 ≤ zv ∧ zv ≤ 16) := by
  refine zWalk.met (nL := 2) (ret := (some .int)) (cc := cX12_greatestOf) (by decide) rfl (Nat.le_of_ble_eq_true rfl) ?_
  intro pg en st mi ag bl mt cd ls CX hW hl
  have CX : zC pg st mi ag mt cd cX12_greatestOf 2 (some .int) RX12 wsX12_greatestOf := CX
  generalize hQ : MQ bl _ ag st 0 0 _ = Q
  have hX0 := CX.1
  have hB0 := CX.2.1
  have hl : lv_has ls 2 [(0, .ref (o + 17))] := hl
  obtain ⟨H, eH⟩ : ∃ H, H = st.heap := ⟨_, rfl⟩
  obtain ⟨locs, eL⟩ : ∃ L : List Loc, L = [] := ⟨_, rfl⟩
  have hW : zW D (zT cI cJ cZ cP cS cM) L (zQ L sz) st (zMO cI cJ o S f) st.heap H locs := by rw [eH, eL]; exact hW
  suffices hgo : W pg l en ({ frames := 0, cells := 0, slots := 0, locals := 0 } : Room) st mi ag bl mt cd H locs 0 0 Q (F0 mi 0 ls []) by rw [eH, eL] at hgo; exact hgo
  clear eH eL
  have hpb := hI.s10
  refine lv_bipush (v := zI 16) hX0 hB0 dX12_greatestOf_0 (by decide) ?_
  refine lv_istore_n (lv' := [(1, .int (zI 16)), (0, .ref (o + 17))]) hX0 hB0 dX12_greatestOf_2 rfl hl (by decide) rfl (fun ls hl => ?_)
  have hXt3 : ∀ (i3 : Int), (zm_greatestOf_g_W3 S ((19 : Nat)) 16 = .inr i3 ∧ -1 ≤ i3 ∧ i3 ≤ 16) → ∀ (H : Heap) (locs : List Loc) (ls : Array Slot), zW D (zT cI cJ cZ cP cS cM) L (zQ L sz) st (zMO cI cJ o S f) st.heap H locs → lv_has ls 2 [(1, .int (zI i3)), (0, .ref (o + 17))] → W pg l en ({ frames := 0, cells := 0, slots := 0, locals := 0 } : Room) st mi ag bl mt cd H locs 0 0 Q (F0 mi 24 ls []) := by
    intro i3 hinv H locs ls hW hl
    obtain ⟨e3, hai3, hbi3⟩ := hinv
    refine lv_iconst (v := zI (-1)) hX0 hB0 dX12_greatestOf_24 rfl ?_
    have hE : zm_greatestOf_g S = -1 := by unfold zm_greatestOf_g; exact zsum_r e3 rfl
    rw [← hQ]
    exact z_iret (z := -1) CX hW (by rw [hE]; exact ⟨rfl, rfl, (show -1 ≤ (-1 : Int) ∧ (-1 : Int) ≤ 16 from by omega)⟩) rfl dX12_greatestOf_25
  have hL3 : ∀ (fu : Nat) (i3 : Int), (zm_greatestOf_g_W3 S ((19 : Nat)) 16 = zm_greatestOf_g_W3 S fu i3 ∧ -1 ≤ i3 ∧ i3 ≤ 16) → (i3 + 1).toNat < fu → ∀ (H : Heap) (locs : List Loc) (ls : Array Slot), zW D (zT cI cJ cZ cP cS cM) L (zQ L sz) st (zMO cI cJ o S f) st.heap H locs → lv_has ls 2 [(1, .int (zI i3)), (0, .ref (o + 17))] → W pg l en ({ frames := 0, cells := 0, slots := 0, locals := 0 } : Room) st mi ag bl mt cd H locs 0 0 Q (F0 mi 3 ls []) := by
    intro fu
    induction fu with
    | zero => intro i3 _ hfu; exact absurd hfu (Nat.not_lt_zero _)
    | succ fu ih3 =>
      intro i3 hinv hfu3 H locs ls hW hl
      obtain ⟨hz3, hai3, hbi3⟩ := hinv
      refine lv_iload_n hX0 hB0 dX12_greatestOf_3 rfl (lv_at hl 0 rfl) ?_
      refine z_if_lt (tgt := 24) CX dX12_greatestOf_4 (by decide) (by constructor <;> omega) (fun c_4 => ?_) (fun c_4 => ?_)
      ·
        exact hXt3 i3 ⟨hz3.trans (by rw [zm_greatestOf_g_W3]; exact zif_t c_4 rfl), by omega, by omega⟩ H locs ls hW (lv_sub hl [0, 1] rfl)
      ·
        have d_4 : ¬ i3 < 0 := by omega
        refine lv_aload_n hX0 hB0 dX12_greatestOf_7 rfl (lv_at hl 1 rfl) ?_
        refine lv_bipush (v := zI 17) hX0 hB0 dX12_greatestOf_8 (by decide) ?_
        refine lv_iload_n hX0 hB0 dX12_greatestOf_10 rfl (lv_at hl 0 rfl) ?_
        refine z_imul (z := 17 * i3) CX dX12_greatestOf_11 rfl ?_
        refine z_iald (z := S 17 ((17 * i3).toNat)) CX hW zMO_17 0 rfl (by refine ⟨?_, ?_, ?_⟩ <;> omega) rfl dX12_greatestOf_12 ?_
        have hr12 := hI.r17 ((17 * i3).toNat)
        refine z_if_eq (tgt := 18) CX dX12_greatestOf_13 (by decide) (by constructor <;> omega) (fun c_13 => ?_) (fun c_13 => ?_)
        ·
          refine lv_iinc (v := zI (i3 + (-1))) (lv' := [(1, .int (zI (i3 + (-1)))), (0, .ref (o + 17))]) hX0 hB0 dX12_greatestOf_18 hl (k := 0) rfl (zI_add _ _) (by decide) rfl (fun ls hl => ?_)
          refine lv_goto (tgt := 3) hX0 hB0 dX12_greatestOf_21 (by decide) ?_
          exact ih3 (i3 + (-1)) ⟨hz3.trans (by rw [zm_greatestOf_g_W3]; exact zif_f d_4 (zif_t c_13 rfl)), by omega, by omega⟩ (by omega) H locs ls hW (lv_sub hl [0, 1] rfl)
        ·
          refine lv_iload_n hX0 hB0 dX12_greatestOf_16 rfl (lv_at hl 0 rfl) ?_
          have hE : zm_greatestOf_g S = i3 := by unfold zm_greatestOf_g; exact zsum_l (hz3.trans (by rw [zm_greatestOf_g_W3]; exact zif_f d_4 (zif_f c_13 rfl))) rfl
          rw [← hQ]
          exact z_iret (z := i3) CX hW (by rw [hE]; exact ⟨rfl, rfl, (show -1 ≤ i3 ∧ i3 ≤ 16 from by omega)⟩) rfl dX12_greatestOf_17
  exact hL3 _ 16 ⟨rfl, by omega, by omega⟩ (by omega) H locs ls hW (lv_sub hl [0, 1] rfl)
def zm_goesBy_J17 (kind : Int) (S9 : zS2) : zS2 := (if 4000 ≤ S9 0 33 then S9 else zlet (za S9 19 ((S9 0 33).toNat) kind) (fun S29 => S29))
def zm_goesBy (S : zS2) (kind : Int) : zS2 := zlet (za S 18 kind.toNat ((S 18 kind.toNat) + 1)) (fun S9 => zlet (zm_goesBy_J17 kind S9) (fun S17j => zlet (za S17j 0 33 ((S17j 0 33) + 1)) (fun S37 => S37)))
set_option maxRecDepth 100000 in
set_option maxHeartbeats 4000000 in
theorem zk_goesBy (l : Launch) {D : va_G} {cI cJ cZ cP cS cM : ClassId} {L : List Nat} {sz : Nat} {f : Nat → va_E} (o : Nat) (S : zS2) (kind : Int) (hI : mI S) (hkind : 0 ≤ kind ∧ kind ≤ 3) (hrm : 0 ≤ S 0 33 ∧ S 0 33 ≤ 2000000000) : zMv l yX12_goesBy wsX12_goesBy 0 0 D (zT cI cJ cZ cP cS cM) L sz (zMO cI cJ o S f) [.ref o, .int (zI kind)] (fun gv => gv = zMO cI cJ o (zm_goesBy S kind) f ∧ mI (zm_goesBy S kind) ∧ (∀ kk ii : Nat, ¬ (kk = 0 ∧ ii = 33) ∧ ¬ kk = 18 ∧ ¬ kk = 19 → (zm_goesBy S kind) kk ii = S kk ii) ∧ (zm_goesBy S kind) 0 33 = S 0 33 + 1) := by
  refine zWalk.met (nL := 2) (ret := none) (cc := cX12_goesBy) (by decide) rfl (Nat.le_of_ble_eq_true rfl) ?_
  intro pg en st mi ag bl mt cd ls CX hW hl
  have CX : zC pg st mi ag mt cd cX12_goesBy 2 none RX12 wsX12_goesBy := CX
  generalize hQ : MQ bl _ ag st 0 0 _ = Q
  have hX0 := CX.1
  have hB0 := CX.2.1
  have hl : lv_has ls 2 [(0, .ref o), (1, .int (zI kind))] := hl
  obtain ⟨H, eH⟩ : ∃ H, H = st.heap := ⟨_, rfl⟩
  obtain ⟨locs, eL⟩ : ∃ L : List Loc, L = [] := ⟨_, rfl⟩
  have hW : zW D (zT cI cJ cZ cP cS cM) L (zQ L sz) st (zMO cI cJ o S f) st.heap H locs := by rw [eH, eL]; exact hW
  suffices hgo : W pg l en ({ frames := 0, cells := 0, slots := 0, locals := 0 } : Room) st mi ag bl mt cd H locs 0 0 Q (F0 mi 0 ls []) by rw [eH, eL] at hgo; exact hgo
  clear eH eL
  have hpb := hI.s10
  refine lv_aload_n hX0 hB0 dX12_goesBy_0 rfl (lv_at hl 0 rfl) ?_
  refine z_get (Cn := RX12) (T := TX12) (N := 37) CX hW (v := .ref (o + 18)) zMO_0 rfl (fun w h => List.mem_cons_of_mem _ (List.mem_append_right _ h)) 32 (by decide) (List.mem_of_getElem? (i := 1) rfl) rfl rfl dX12_goesBy_1 ?_
  refine lv_iload_n hX0 hB0 dX12_goesBy_4 rfl (lv_at hl 1 rfl) ?_
  refine lv_dup2_11 hX0 hB0 dX12_goesBy_5 rfl rfl ?_
  refine z_iald (z := S 18 kind.toNat) CX hW zMO_18 0 rfl (by refine ⟨?_, ?_, ?_⟩ <;> omega) rfl dX12_goesBy_6 ?_
  refine lv_iconst (v := zI 1) hX0 hB0 dX12_goesBy_7 rfl ?_
  refine z_iadd (z := (S 18 kind.toNat) + 1) CX dX12_goesBy_8 rfl ?_
  obtain ⟨S9, e9⟩ : ∃ q, za S 18 kind.toNat ((S 18 kind.toNat) + 1) = q := ⟨_, rfl⟩
  refine z_iast CX hW zMO_18 0 rfl (by refine ⟨?_, ?_, ?_⟩ <;> omega) (g := zMO cI cJ o S9 f) (zMO_w18.trans (by rw [← e9]; rfl)) dX12_goesBy_9 (fun H locs hW => ?_)
  have hI9 : mI S9 := e9 ▸ hI.w18 
  have t9_33 : S9 0 33 = S 0 33 := by rw [← e9]; exact za_ne (by omega)
  refine lv_aload_n hX0 hB0 dX12_goesBy_10 rfl (lv_at hl 0 rfl) ?_
  refine z_get (Cn := RX12) (T := TX12) (N := 37) CX hW (v := .int (zI (S9 0 33))) zMO_0 rfl (fun w h => List.mem_cons_of_mem _ (List.mem_append_right _ h)) 33 (by decide) (List.mem_of_getElem? (i := 2) rfl) rfl rfl dX12_goesBy_11 ?_
  refine lv_sipush (v := zI 4000) hX0 hB0 dX12_goesBy_14 (by decide) ?_
  have hJ17 : ∀ (S17j : zS2), (zm_goesBy_J17 kind S9 = S17j ∧ mI S17j ∧ (∀ kk ii : Nat, ¬ kk = 19 → S17j kk ii = S9 kk ii) ∧ (S17j 0 33 = S 0 33)) → ∀ (H : Heap) (locs : List Loc) (ls : Array Slot), zW D (zT cI cJ cZ cP cS cM) L (zQ L sz) st (zMO cI cJ o S17j f) st.heap H locs → lv_has ls 2 [(0, .ref o), (1, .int (zI kind))] → W pg l en ({ frames := 0, cells := 0, slots := 0, locals := 0 } : Room) st mi ag bl mt cd H locs 0 0 Q (F0 mi 30 ls []) := by
    intro S17j hinv H locs ls hW hl
    obtain ⟨e17j, hI17j, hf17j, hv17j⟩ := hinv
    have hp17j := hI17j.s10
    have t17j_33 : S17j 0 33 = S9 0 33 := hf17j 0 33 (by omega)
    refine lv_aload_n hX0 hB0 dX12_goesBy_30 rfl (lv_at hl 0 rfl) ?_
    refine lv_dup hX0 hB0 dX12_goesBy_31 rfl ?_
    refine z_get (Cn := RX12) (T := TX12) (N := 37) CX hW (v := .int (zI (S17j 0 33))) zMO_0 rfl (fun w h => List.mem_cons_of_mem _ (List.mem_append_right _ h)) 33 (by decide) (List.mem_of_getElem? (i := 2) rfl) rfl rfl dX12_goesBy_32 ?_
    refine lv_iconst (v := zI 1) hX0 hB0 dX12_goesBy_35 rfl ?_
    refine z_iadd (z := (S17j 0 33) + 1) CX dX12_goesBy_36 rfl ?_
    obtain ⟨S37, e37⟩ : ∃ q, za S17j 0 33 ((S17j 0 33) + 1) = q := ⟨_, rfl⟩
    refine z_put (Cn := RX12) (T := TX12) (N := 37) CX hW (v := .int (zI ((S17j 0 33) + 1))) zMO_0 rfl (fun w h => List.mem_cons_of_mem _ (List.mem_append_right _ h)) tyX12 tyX12_ok nmX12 33 (by decide) (List.mem_of_getElem? (i := 2) rfl) rfl rfl rfl rfl (Nat.le_of_ble_eq_true rfl) (g := zMO cI cJ o S37 f) (zMO_s33.trans (by rw [e37])) dX12_goesBy_37 (fun H locs hW => ?_)
    have hI37 : mI S37 := e37 ▸ hI17j.v33 
    have t37_33 : S37 0 33 = (S17j 0 33) + 1 := by rw [← e37]; exact za_same
    have hE : zm_goesBy S kind = S37 := by unfold zm_goesBy; exact zlet_e e9 (zlet_e e17j (zlet_e e37 rfl))
    have hFr : ∀ kk ii : Nat, ¬ (kk = 0 ∧ ii = 33) ∧ ¬ kk = 18 ∧ ¬ kk = 19 → S37 kk ii = S kk ii := fun kk ii hk => (((show S37 kk ii = S17j kk ii from by rw [← e37]; exact za_ne (by omega))).trans (hf17j kk ii (by omega))).trans (show S9 kk ii = S kk ii from by rw [← e9]; exact za_ne (by omega))
    rw [← hQ]
    exact z_vret CX hW (by rw [hE]; exact ⟨rfl, hI37, hFr, (show S37 0 33 = S 0 33 + 1 from by omega)⟩) dX12_goesBy_40
  refine z_icmp_ge (tgt := 30) CX dX12_goesBy_17 (by decide) (by constructor <;> omega) (by constructor <;> omega) (fun c_17 => ?_) (fun c_17 => ?_)
  ·
    exact hJ17 S9 ⟨(by unfold zm_goesBy_J17; exact zif_t c_17 rfl), hI9, fun kk ii hk => rfl, by omega⟩ H locs ls hW (lv_sub hl [0, 1] rfl)
  ·
    have d_17 : ¬ 4000 ≤ S9 0 33 := by omega
    refine lv_aload_n hX0 hB0 dX12_goesBy_20 rfl (lv_at hl 0 rfl) ?_
    refine z_get (Cn := RX12) (T := TX12) (N := 37) CX hW (v := .ref (o + 19)) zMO_0 rfl (fun w h => List.mem_cons_of_mem _ (List.mem_append_right _ h)) 34 (by decide) (List.mem_of_getElem? (i := 3) rfl) rfl rfl dX12_goesBy_21 ?_
    refine lv_aload_n hX0 hB0 dX12_goesBy_24 rfl (lv_at hl 0 rfl) ?_
    refine z_get (Cn := RX12) (T := TX12) (N := 37) CX hW (v := .int (zI (S9 0 33))) zMO_0 rfl (fun w h => List.mem_cons_of_mem _ (List.mem_append_right _ h)) 33 (by decide) (List.mem_of_getElem? (i := 2) rfl) rfl rfl dX12_goesBy_25 ?_
    refine lv_iload_n hX0 hB0 dX12_goesBy_28 rfl (lv_at hl 1 rfl) ?_
    obtain ⟨S29, e29⟩ : ∃ q, za S9 19 ((S9 0 33).toNat) kind = q := ⟨_, rfl⟩
    refine z_iast CX hW zMO_19 0 rfl (by refine ⟨?_, ?_, ?_⟩ <;> omega) (g := zMO cI cJ o S29 f) (zMO_w19.trans (by rw [← e29]; rfl)) dX12_goesBy_29 (fun H locs hW => ?_)
    have hI29 : mI S29 := e29 ▸ hI9.w19 (by constructor <;> omega)
    have t29_33 : S29 0 33 = S9 0 33 := by rw [← e29]; exact za_ne (by omega)
    exact hJ17 S29 ⟨(by unfold zm_goesBy_J17; exact zif_f d_17 (zlet_e e29 rfl)), hI29, fun kk ii hk => (show S29 kk ii = S9 kk ii from by rw [← e29]; exact za_ne (by omega)), by omega⟩ H locs ls hW (lv_sub hl [0, 1] rfl)
def zm_splits_L10 (i2 : Int) : Int → zS2 → zS2 := fun i10 s10 => (fun (S10 : zS2) => zlet (za S10 16 (((17 * i2) + i10).toNat) (S10 16 ((((17 * i2) + i10) + 1).toNat))) (fun S39 => S39)) s10
def zm_splits_L2  : Int → zS2 → zS2 := fun i2 s2 => (fun (S2 : zS2) => zlet (zfor (zm_splits_L10 i2) 0 S2 (15 + 1 - 0 : Int).toNat) (fun S10 => zlet (za S10 16 (((17 * i2) + 16).toNat) 0) (fun S58 => S58))) s2
def zm_splits (S : zS2)  : zS2 := zlet (zfor (zm_splits_L2) 0 S (16 + 1 - 0 : Int).toNat) (fun S2 => S2)
set_option maxRecDepth 100000 in
set_option maxHeartbeats 4000000 in
theorem zk_splits (l : Launch) {D : va_G} {cI cJ cZ cP cS cM : ClassId} {L : List Nat} {sz : Nat} {f : Nat → va_E} (o : Nat) (S : zS2)  (hI : mI S)  : zMv l yX12_splits wsX12_splits 0 0 D (zT cI cJ cZ cP cS cM) L sz (zMO cI cJ o S f) [.ref o] (fun gv => gv = zMO cI cJ o (zm_splits S) f ∧ mI (zm_splits S) ∧ (∀ kk ii : Nat, ¬ kk = 16 → (zm_splits S) kk ii = S kk ii) ∧ True) := by
  refine zWalk.met (nL := 3) (ret := none) (cc := cX12_splits) (by decide) rfl (Nat.le_of_ble_eq_true rfl) ?_
  intro pg en st mi ag bl mt cd ls CX hW hl
  have CX : zC pg st mi ag mt cd cX12_splits 3 none RX12 wsX12_splits := CX
  generalize hQ : MQ bl _ ag st 0 0 _ = Q
  have hX0 := CX.1
  have hB0 := CX.2.1
  have hl : lv_has ls 3 [(0, .ref o)] := hl
  obtain ⟨H, eH⟩ : ∃ H, H = st.heap := ⟨_, rfl⟩
  obtain ⟨locs, eL⟩ : ∃ L : List Loc, L = [] := ⟨_, rfl⟩
  have hW : zW D (zT cI cJ cZ cP cS cM) L (zQ L sz) st (zMO cI cJ o S f) st.heap H locs := by rw [eH, eL]; exact hW
  suffices hgo : W pg l en ({ frames := 0, cells := 0, slots := 0, locals := 0 } : Room) st mi ag bl mt cd H locs 0 0 Q (F0 mi 0 ls []) by rw [eH, eL] at hgo; exact hgo
  clear eH eL
  have hpb := hI.s10
  refine lv_iconst (v := zI 0) hX0 hB0 dX12_splits_0 rfl ?_
  refine lv_istore_n (lv' := [(1, .int (zI 0)), (0, .ref o)]) hX0 hB0 dX12_splits_1 rfl hl (by decide) rfl (fun ls hl => ?_)
  have hL2 : ∀ (fu : Nat) (i2 : Int) (S2 : zS2), ((0 ≤ i2 ∧ i2 ≤ 16 + 1) ∧ zfor (zm_splits_L2) 0 S (i2 - 0).toNat = S2 ∧ mI S2 ∧ (∀ kk ii : Nat, ¬ kk = 16 → S2 kk ii = S kk ii)) → (16 + 1 - i2).toNat < fu → ∀ (H : Heap) (locs : List Loc) (ls : Array Slot), zW D (zT cI cJ cZ cP cS cM) L (zQ L sz) st (zMO cI cJ o S2 f) st.heap H locs → lv_has ls 3 [(1, .int (zI i2)), (0, .ref o)] → W pg l en ({ frames := 0, cells := 0, slots := 0, locals := 0 } : Room) st mi ag bl mt cd H locs 0 0 Q (F0 mi 2 ls []) := by
    intro fu
    induction fu with
    | zero => intro i2 S2 _ hfu; exact absurd hfu (Nat.not_lt_zero _)
    | succ fu ih2 =>
      intro i2 S2 hinv hfu2 H locs ls hW hl
      obtain ⟨⟨hlo2, hhi2⟩, hz2, hI2, hf2⟩ := hinv
      have hp2 := hI2.s10
      refine lv_iload_n hX0 hB0 dX12_splits_2 rfl (lv_at hl 0 rfl) ?_
      refine lv_bipush (v := zI 16) hX0 hB0 dX12_splits_3 (by decide) ?_
      refine z_icmp_gt (tgt := 65) CX dX12_splits_5 (by decide) (by constructor <;> omega) (by constructor <;> omega) (fun c_5 => ?_) (fun c_5 => ?_)
      ·
        have e2 : zfor (zm_splits_L2) 0 S (16 + 1 - 0 : Int).toNat = S2 := by rw [show (16 + 1 - 0 : Int).toNat = (i2 - 0).toNat by omega]; exact hz2
        have hE : zm_splits S = S2 := by unfold zm_splits; exact zlet_e e2 rfl
        have hFr : ∀ kk ii : Nat, ¬ kk = 16 → S2 kk ii = S kk ii := fun kk ii hk => (hf2 kk ii (by omega))
        rw [← hQ]
        exact z_vret CX hW (by rw [hE]; exact ⟨rfl, hI2, hFr, trivial⟩) dX12_splits_65
      ·
        refine lv_iconst (v := zI 0) hX0 hB0 dX12_splits_8 rfl ?_
        refine lv_istore_n (lv' := [(2, .int (zI 0)), (1, .int (zI i2)), (0, .ref o)]) hX0 hB0 dX12_splits_9 rfl hl (by decide) rfl (fun ls hl => ?_)
        have hL10 : ∀ (fu : Nat) (i10 : Int) (S10 : zS2), ((0 ≤ i10 ∧ i10 ≤ 15 + 1) ∧ zfor (zm_splits_L10 i2) 0 S2 (i10 - 0).toNat = S10 ∧ mI S10 ∧ (∀ kk ii : Nat, ¬ kk = 16 → S10 kk ii = S2 kk ii)) → (15 + 1 - i10).toNat < fu → ∀ (H : Heap) (locs : List Loc) (ls : Array Slot), zW D (zT cI cJ cZ cP cS cM) L (zQ L sz) st (zMO cI cJ o S10 f) st.heap H locs → lv_has ls 3 [(2, .int (zI i10)), (1, .int (zI i2)), (0, .ref o)] → W pg l en ({ frames := 0, cells := 0, slots := 0, locals := 0 } : Room) st mi ag bl mt cd H locs 0 0 Q (F0 mi 10 ls []) := by
          intro fu
          induction fu with
          | zero => intro i10 S10 _ hfu; exact absurd hfu (Nat.not_lt_zero _)
          | succ fu ih10 =>
            intro i10 S10 hinv hfu10 H locs ls hW hl
            obtain ⟨⟨hlo10, hhi10⟩, hz10, hI10, hf10⟩ := hinv
            have hp10 := hI10.s10
            refine lv_iload_n hX0 hB0 dX12_splits_10 rfl (lv_at hl 0 rfl) ?_
            refine lv_bipush (v := zI 16) hX0 hB0 dX12_splits_11 (by decide) ?_
            refine z_icmp_ge (tgt := 46) CX dX12_splits_13 (by decide) (by constructor <;> omega) (by constructor <;> omega) (fun c_13 => ?_) (fun c_13 => ?_)
            ·
              have e10 : zfor (zm_splits_L10 i2) 0 S2 (15 + 1 - 0 : Int).toNat = S10 := by rw [show (15 + 1 - 0 : Int).toNat = (i10 - 0).toNat by omega]; exact hz10
              refine lv_aload_n hX0 hB0 dX12_splits_46 rfl (lv_at hl 2 rfl) ?_
              refine z_get (Cn := RX12) (T := TX12) (N := 37) CX hW (v := .ref (o + 16)) zMO_0 rfl (fun w h => List.mem_cons_of_mem _ (List.mem_append_right _ h)) 30 (by decide) (List.mem_of_getElem? (i := 1) rfl) rfl rfl dX12_splits_47 ?_
              refine lv_bipush (v := zI 17) hX0 hB0 dX12_splits_50 (by decide) ?_
              refine lv_iload_n hX0 hB0 dX12_splits_52 rfl (lv_at hl 1 rfl) ?_
              refine z_imul (z := 17 * i2) CX dX12_splits_53 rfl ?_
              refine lv_bipush (v := zI 16) hX0 hB0 dX12_splits_54 (by decide) ?_
              refine z_iadd (z := (17 * i2) + 16) CX dX12_splits_56 rfl ?_
              refine lv_iconst (v := zI 0) hX0 hB0 dX12_splits_57 rfl ?_
              obtain ⟨S58, e58⟩ : ∃ q, za S10 16 (((17 * i2) + 16).toNat) 0 = q := ⟨_, rfl⟩
              refine z_iast CX hW zMO_16 0 rfl (by refine ⟨?_, ?_, ?_⟩ <;> omega) (g := zMO cI cJ o S58 f) (zMO_w16.trans (by rw [← e58]; rfl)) dX12_splits_58 (fun H locs hW => ?_)
              have hI58 : mI S58 := e58 ▸ hI10.w16 (by constructor <;> omega)
              refine lv_iinc (v := zI (i2 + 1)) (lv' := [(1, .int (zI (i2 + 1))), (2, .int (zI i10)), (0, .ref o)]) hX0 hB0 dX12_splits_59 hl (k := 1) rfl (zI_add _ _) (by decide) rfl (fun ls hl => ?_)
              refine lv_goto (tgt := 2) hX0 hB0 dX12_splits_62 (by decide) ?_
              exact ih2 (i2 + 1) S58 ⟨⟨by omega, by omega⟩, (zfor_s _ _ _ (by omega)).trans ((congrArg (zm_splits_L2 i2) hz2).trans (by unfold zm_splits_L2; exact zlet_e e10 (zlet_e e58 rfl))), hI58, fun kk ii hk => (((show S58 kk ii = S10 kk ii from by rw [← e58]; exact za_ne (by omega))).trans (hf10 kk ii (by omega))).trans (hf2 kk ii (by omega))⟩ (by omega) H locs ls hW (lv_sub hl [0, 2] rfl)
            ·
              refine lv_aload_n hX0 hB0 dX12_splits_16 rfl (lv_at hl 2 rfl) ?_
              refine z_get (Cn := RX12) (T := TX12) (N := 37) CX hW (v := .ref (o + 16)) zMO_0 rfl (fun w h => List.mem_cons_of_mem _ (List.mem_append_right _ h)) 30 (by decide) (List.mem_of_getElem? (i := 1) rfl) rfl rfl dX12_splits_17 ?_
              refine lv_bipush (v := zI 17) hX0 hB0 dX12_splits_20 (by decide) ?_
              refine lv_iload_n hX0 hB0 dX12_splits_22 rfl (lv_at hl 1 rfl) ?_
              refine z_imul (z := 17 * i2) CX dX12_splits_23 rfl ?_
              refine lv_iload_n hX0 hB0 dX12_splits_24 rfl (lv_at hl 0 rfl) ?_
              refine z_iadd (z := (17 * i2) + i10) CX dX12_splits_25 rfl ?_
              refine lv_aload_n hX0 hB0 dX12_splits_26 rfl (lv_at hl 2 rfl) ?_
              refine z_get (Cn := RX12) (T := TX12) (N := 37) CX hW (v := .ref (o + 16)) zMO_0 rfl (fun w h => List.mem_cons_of_mem _ (List.mem_append_right _ h)) 30 (by decide) (List.mem_of_getElem? (i := 1) rfl) rfl rfl dX12_splits_27 ?_
              refine lv_bipush (v := zI 17) hX0 hB0 dX12_splits_30 (by decide) ?_
              refine lv_iload_n hX0 hB0 dX12_splits_32 rfl (lv_at hl 1 rfl) ?_
              refine z_imul (z := 17 * i2) CX dX12_splits_33 rfl ?_
              refine lv_iload_n hX0 hB0 dX12_splits_34 rfl (lv_at hl 0 rfl) ?_
              refine z_iadd (z := (17 * i2) + i10) CX dX12_splits_35 rfl ?_
              refine lv_iconst (v := zI 1) hX0 hB0 dX12_splits_36 rfl ?_
              refine z_iadd (z := ((17 * i2) + i10) + 1) CX dX12_splits_37 rfl ?_
              refine z_iald (z := S10 16 ((((17 * i2) + i10) + 1).toNat)) CX hW zMO_16 0 rfl (by refine ⟨?_, ?_, ?_⟩ <;> omega) rfl dX12_splits_38 ?_
              have hr38 := hI10.r16 ((((17 * i2) + i10) + 1).toNat)
              obtain ⟨S39, e39⟩ : ∃ q, za S10 16 (((17 * i2) + i10).toNat) (S10 16 ((((17 * i2) + i10) + 1).toNat)) = q := ⟨_, rfl⟩
              refine z_iast CX hW zMO_16 0 rfl (by refine ⟨?_, ?_, ?_⟩ <;> omega) (g := zMO cI cJ o S39 f) (zMO_w16.trans (by rw [← e39]; rfl)) dX12_splits_39 (fun H locs hW => ?_)
              have hI39 : mI S39 := e39 ▸ hI10.w16 (by constructor <;> omega)
              refine lv_iinc (v := zI (i10 + 1)) (lv' := [(2, .int (zI (i10 + 1))), (1, .int (zI i2)), (0, .ref o)]) hX0 hB0 dX12_splits_40 hl (k := 0) rfl (zI_add _ _) (by decide) rfl (fun ls hl => ?_)
              refine lv_goto (tgt := 10) hX0 hB0 dX12_splits_43 (by decide) ?_
              exact ih10 (i10 + 1) S39 ⟨⟨by omega, by omega⟩, (zfor_s _ _ _ (by omega)).trans ((congrArg (zm_splits_L10 i2 i10) hz10).trans (by unfold zm_splits_L10; exact zlet_e e39 rfl)), hI39, fun kk ii hk => ((show S39 kk ii = S10 kk ii from by rw [← e39]; exact za_ne (by omega))).trans (hf10 kk ii (by omega))⟩ (by omega) H locs ls hW (lv_sub hl [0, 1, 2] rfl)
        exact hL10 _ 0 S2 ⟨⟨by omega, by omega⟩, zfor_0 _ _ _, hI2, fun kk ii hk => rfl⟩ (Nat.lt_succ_self _) H locs ls hW (lv_sub hl [0, 1, 2] rfl)
  exact hL2 _ 0 S ⟨⟨by omega, by omega⟩, zfor_0 _ _ _, hI, fun kk ii hk => rfl⟩ (Nat.lt_succ_self _) H locs ls hW (lv_sub hl [0, 1] rfl)
def zm_swaps_L2  : Int → zS2 → zS2 := fun i2 s2 => (fun (S2 : zS2) => zlet (za S2 16 i2.toNat (S2 17 i2.toNat)) (fun S27 => zlet (za S27 17 i2.toNat (S2 16 i2.toNat)) (fun S34 => S34))) s2
def zm_swaps (S : zS2)  : zS2 := zlet (zfor (zm_swaps_L2) 0 S (288 + 1 - 0 : Int).toNat) (fun S2 => S2)
set_option maxRecDepth 100000 in
set_option maxHeartbeats 4000000 in
theorem zk_swaps (l : Launch) {D : va_G} {cI cJ cZ cP cS cM : ClassId} {L : List Nat} {sz : Nat} {f : Nat → va_E} (o : Nat) (S : zS2)  (hI : mI S)  : zMv l yX12_swaps wsX12_swaps 0 0 D (zT cI cJ cZ cP cS cM) L sz (zMO cI cJ o S f) [.ref o] (fun gv => gv = zMO cI cJ o (zm_swaps S) f ∧ mI (zm_swaps S) ∧ (∀ kk ii : Nat, ¬ kk = 16 ∧ ¬ kk = 17 → (zm_swaps S) kk ii = S kk ii) ∧ True) := by
  refine zWalk.met (nL := 3) (ret := none) (cc := cX12_swaps) (by decide) rfl (Nat.le_of_ble_eq_true rfl) ?_
  intro pg en st mi ag bl mt cd ls CX hW hl
  have CX : zC pg st mi ag mt cd cX12_swaps 3 none RX12 wsX12_swaps := CX
  generalize hQ : MQ bl _ ag st 0 0 _ = Q
  have hX0 := CX.1
  have hB0 := CX.2.1
  have hl : lv_has ls 3 [(0, .ref o)] := hl
  obtain ⟨H, eH⟩ : ∃ H, H = st.heap := ⟨_, rfl⟩
  obtain ⟨locs, eL⟩ : ∃ L : List Loc, L = [] := ⟨_, rfl⟩
  have hW : zW D (zT cI cJ cZ cP cS cM) L (zQ L sz) st (zMO cI cJ o S f) st.heap H locs := by rw [eH, eL]; exact hW
  suffices hgo : W pg l en ({ frames := 0, cells := 0, slots := 0, locals := 0 } : Room) st mi ag bl mt cd H locs 0 0 Q (F0 mi 0 ls []) by rw [eH, eL] at hgo; exact hgo
  clear eH eL
  have hpb := hI.s10
  refine lv_iconst (v := zI 0) hX0 hB0 dX12_swaps_0 rfl ?_
  refine lv_istore_n (lv' := [(1, .int (zI 0)), (0, .ref o)]) hX0 hB0 dX12_swaps_1 rfl hl (by decide) rfl (fun ls hl => ?_)
  have hL2 : ∀ (fu : Nat) (i2 : Int) (S2 : zS2), ((0 ≤ i2 ∧ i2 ≤ 288 + 1) ∧ zfor (zm_swaps_L2) 0 S (i2 - 0).toNat = S2 ∧ mI S2 ∧ (∀ kk ii : Nat, ¬ kk = 16 ∧ ¬ kk = 17 → S2 kk ii = S kk ii)) → (288 + 1 - i2).toNat < fu → ∀ (H : Heap) (locs : List Loc) (ls : Array Slot), zW D (zT cI cJ cZ cP cS cM) L (zQ L sz) st (zMO cI cJ o S2 f) st.heap H locs → lv_has ls 3 [(1, .int (zI i2)), (0, .ref o)] → W pg l en ({ frames := 0, cells := 0, slots := 0, locals := 0 } : Room) st mi ag bl mt cd H locs 0 0 Q (F0 mi 2 ls []) := by
    intro fu
    induction fu with
    | zero => intro i2 S2 _ hfu; exact absurd hfu (Nat.not_lt_zero _)
    | succ fu ih2 =>
      intro i2 S2 hinv hfu2 H locs ls hW hl
      obtain ⟨⟨hlo2, hhi2⟩, hz2, hI2, hf2⟩ := hinv
      have hp2 := hI2.s10
      refine lv_iload_n hX0 hB0 dX12_swaps_2 rfl (lv_at hl 0 rfl) ?_
      refine lv_sipush (v := zI 289) hX0 hB0 dX12_swaps_3 (by decide) ?_
      refine z_icmp_ge (tgt := 41) CX dX12_swaps_6 (by decide) (by constructor <;> omega) (by constructor <;> omega) (fun c_6 => ?_) (fun c_6 => ?_)
      ·
        have e2 : zfor (zm_swaps_L2) 0 S (288 + 1 - 0 : Int).toNat = S2 := by rw [show (288 + 1 - 0 : Int).toNat = (i2 - 0).toNat by omega]; exact hz2
        have hE : zm_swaps S = S2 := by unfold zm_swaps; exact zlet_e e2 rfl
        have hFr : ∀ kk ii : Nat, ¬ kk = 16 ∧ ¬ kk = 17 → S2 kk ii = S kk ii := fun kk ii hk => (hf2 kk ii (by omega))
        rw [← hQ]
        exact z_vret CX hW (by rw [hE]; exact ⟨rfl, hI2, hFr, trivial⟩) dX12_swaps_41
      ·
        refine lv_aload_n hX0 hB0 dX12_swaps_9 rfl (lv_at hl 1 rfl) ?_
        refine z_get (Cn := RX12) (T := TX12) (N := 37) CX hW (v := .ref (o + 16)) zMO_0 rfl (fun w h => List.mem_cons_of_mem _ (List.mem_append_right _ h)) 30 (by decide) (List.mem_of_getElem? (i := 1) rfl) rfl rfl dX12_swaps_10 ?_
        refine lv_iload_n hX0 hB0 dX12_swaps_13 rfl (lv_at hl 0 rfl) ?_
        refine z_iald (z := S2 16 i2.toNat) CX hW zMO_16 0 rfl (by refine ⟨?_, ?_, ?_⟩ <;> omega) rfl dX12_swaps_14 ?_
        have hr14 := hI2.r16 i2.toNat
        refine lv_istore_n (lv' := [(2, .int (zI (S2 16 i2.toNat))), (1, .int (zI i2)), (0, .ref o)]) hX0 hB0 dX12_swaps_15 rfl hl (by decide) rfl (fun ls hl => ?_)
        refine lv_aload_n hX0 hB0 dX12_swaps_16 rfl (lv_at hl 2 rfl) ?_
        refine z_get (Cn := RX12) (T := TX12) (N := 37) CX hW (v := .ref (o + 16)) zMO_0 rfl (fun w h => List.mem_cons_of_mem _ (List.mem_append_right _ h)) 30 (by decide) (List.mem_of_getElem? (i := 1) rfl) rfl rfl dX12_swaps_17 ?_
        refine lv_iload_n hX0 hB0 dX12_swaps_20 rfl (lv_at hl 1 rfl) ?_
        refine lv_aload_n hX0 hB0 dX12_swaps_21 rfl (lv_at hl 2 rfl) ?_
        refine z_get (Cn := RX12) (T := TX12) (N := 37) CX hW (v := .ref (o + 17)) zMO_0 rfl (fun w h => List.mem_cons_of_mem _ (List.mem_append_right _ h)) 31 (by decide) (List.mem_of_getElem? (i := 2) rfl) rfl rfl dX12_swaps_22 ?_
        refine lv_iload_n hX0 hB0 dX12_swaps_25 rfl (lv_at hl 1 rfl) ?_
        refine z_iald (z := S2 17 i2.toNat) CX hW zMO_17 0 rfl (by refine ⟨?_, ?_, ?_⟩ <;> omega) rfl dX12_swaps_26 ?_
        have hr26 := hI2.r17 i2.toNat
        obtain ⟨S27, e27⟩ : ∃ q, za S2 16 i2.toNat (S2 17 i2.toNat) = q := ⟨_, rfl⟩
        refine z_iast CX hW zMO_16 0 rfl (by refine ⟨?_, ?_, ?_⟩ <;> omega) (g := zMO cI cJ o S27 f) (zMO_w16.trans (by rw [← e27]; rfl)) dX12_swaps_27 (fun H locs hW => ?_)
        have hI27 : mI S27 := e27 ▸ hI2.w16 (by constructor <;> omega)
        refine lv_aload_n hX0 hB0 dX12_swaps_28 rfl (lv_at hl 2 rfl) ?_
        refine z_get (Cn := RX12) (T := TX12) (N := 37) CX hW (v := .ref (o + 17)) zMO_0 rfl (fun w h => List.mem_cons_of_mem _ (List.mem_append_right _ h)) 31 (by decide) (List.mem_of_getElem? (i := 2) rfl) rfl rfl dX12_swaps_29 ?_
        refine lv_iload_n hX0 hB0 dX12_swaps_32 rfl (lv_at hl 1 rfl) ?_
        refine lv_iload_n hX0 hB0 dX12_swaps_33 rfl (lv_at hl 0 rfl) ?_
        obtain ⟨S34, e34⟩ : ∃ q, za S27 17 i2.toNat (S2 16 i2.toNat) = q := ⟨_, rfl⟩
        refine z_iast CX hW zMO_17 0 rfl (by refine ⟨?_, ?_, ?_⟩ <;> omega) (g := zMO cI cJ o S34 f) (zMO_w17.trans (by rw [← e34]; rfl)) dX12_swaps_34 (fun H locs hW => ?_)
        have hI34 : mI S34 := e34 ▸ hI27.w17 (by constructor <;> omega)
        refine lv_iinc (v := zI (i2 + 1)) (lv' := [(1, .int (zI (i2 + 1))), (2, .int (zI (S2 16 i2.toNat))), (0, .ref o)]) hX0 hB0 dX12_swaps_35 hl (k := 1) rfl (zI_add _ _) (by decide) rfl (fun ls hl => ?_)
        refine lv_goto (tgt := 2) hX0 hB0 dX12_swaps_38 (by decide) ?_
        exact ih2 (i2 + 1) S34 ⟨⟨by omega, by omega⟩, (zfor_s _ _ _ (by omega)).trans ((congrArg (zm_swaps_L2 i2) hz2).trans (by unfold zm_swaps_L2; exact zlet_e e27 (zlet_e e34 rfl))), hI34, fun kk ii hk => (((show S34 kk ii = S27 kk ii from by rw [← e34]; exact za_ne (by omega))).trans (show S27 kk ii = S2 kk ii from by rw [← e27]; exact za_ne (by omega))).trans (hf2 kk ii (by omega))⟩ (by omega) H locs ls hW (lv_sub hl [0, 2] rfl)
  exact hL2 _ 0 S ⟨⟨by omega, by omega⟩, zfor_0 _ _ _, hI, fun kk ii hk => rfl⟩ (Nat.lt_succ_self _) H locs ls hW (lv_sub hl [0, 1] rfl)
def zm_cuts_L51 (high : Int) (other : Int) (z26 : Int) (i38 : Int) : Int → zS2 → zS2 := fun i51 s51 => (fun (S51 : zS2) => zlet (zm_modulo S51 ((S51 17 (((17 * (i38 + (other - high))) + i51).toNat)) - (z26 * (S51 16 (((17 * i38) + i51).toNat))))) (fun z110 => zlet (za S51 17 (((17 * (i38 + (other - high))) + i51).toNat) z110) (fun S113 => S113))) s51
def zm_cuts_L38 (high : Int) (other : Int) (z26 : Int) : Int → zS2 → zS2 := fun i38 s38 => (fun (S38 : zS2) => zlet (zfor (zm_cuts_L51 high other z26 i38) 0 S38 ((16 - (i38 + (other - high))) + 1 - 0).toNat) (fun S51 => S51)) s38
def zm_cuts (S : zS2) (high : Int) (other : Int) : zS2 := zlet (zm_inverse S (S 16 ((17 * high).toNat))) (fun z21 => zlet (zm_modulo S ((S 17 ((17 * other).toNat)) * z21)) (fun z26 => zlet (zfor (zm_cuts_L38 high other z26) 0 S ((16 - (other - high)) + 1 - 0).toNat) (fun S38 => S38)))
set_option maxRecDepth 100000 in
set_option maxHeartbeats 4000000 in
theorem zk_cuts (l : Launch) {D : va_G} {cI cJ cZ cP cS cM : ClassId} {L : List Nat} {sz : Nat} {f : Nat → va_E} (o : Nat) (S : zS2) (high : Int) (other : Int) (hI : mI S) (hhigh : 0 ≤ high ∧ high ≤ 16) (hother : 0 ≤ other ∧ other ≤ 16) (hho : high ≤ other) : zMv l yX12_cuts wsX12_cuts 3 70 D (zT cI cJ cZ cP cS cM) L sz (zMO cI cJ o S f) [.ref o, .int (zI high), .int (zI other)] (fun gv => gv = zMO cI cJ o (zm_cuts S high other) f ∧ mI (zm_cuts S high other) ∧ (∀ kk ii : Nat, ¬ kk = 17 → (zm_cuts S high other) kk ii = S kk ii) ∧ True) := by
  refine zWalk.met (nL := 8) (ret := none) (cc := cX12_cuts) (by decide) rfl (Nat.le_of_ble_eq_true rfl) ?_
  intro pg en st mi ag bl mt cd ls CX hW hl
  have CX : zC pg st mi ag mt cd cX12_cuts 8 none RX12 wsX12_cuts := CX
  generalize hQ : MQ bl _ ag st 0 0 _ = Q
  have hX0 := CX.1
  have hB0 := CX.2.1
  have hl : lv_has ls 8 [(0, .ref o), (1, .int (zI high)), (2, .int (zI other))] := hl
  obtain ⟨H, eH⟩ : ∃ H, H = st.heap := ⟨_, rfl⟩
  obtain ⟨locs, eL⟩ : ∃ L : List Loc, L = [] := ⟨_, rfl⟩
  have hW : zW D (zT cI cJ cZ cP cS cM) L (zQ L sz) st (zMO cI cJ o S f) st.heap H locs := by rw [eH, eL]; exact hW
  suffices hgo : W pg l en ({ frames := 3, cells := 0, slots := 0, locals := 70 } : Room) st mi ag bl mt cd H locs 0 0 Q (F0 mi 0 ls []) by rw [eH, eL] at hgo; exact hgo
  clear eH eL
  have hpb := hI.s10
  refine lv_aload_n hX0 hB0 dX12_cuts_0 rfl (lv_at hl 0 rfl) ?_
  refine lv_aload_n hX0 hB0 dX12_cuts_1 rfl (lv_at hl 0 rfl) ?_
  refine z_get (Cn := RX12) (T := TX12) (N := 37) CX hW (v := .ref (o + 17)) zMO_0 rfl (fun w h => List.mem_cons_of_mem _ (List.mem_append_right _ h)) 31 (by decide) (List.mem_of_getElem? (i := 1) rfl) rfl rfl dX12_cuts_2 ?_
  refine lv_bipush (v := zI 17) hX0 hB0 dX12_cuts_5 (by decide) ?_
  refine lv_iload_n hX0 hB0 dX12_cuts_7 rfl (lv_at hl 2 rfl) ?_
  refine z_imul (z := 17 * other) CX dX12_cuts_8 rfl ?_
  refine z_iald (z := S 17 ((17 * other).toNat)) CX hW zMO_17 0 rfl (by refine ⟨?_, ?_, ?_⟩ <;> omega) rfl dX12_cuts_9 ?_
  have hr9 := hI.r17 ((17 * other).toNat)
  refine z_i2l CX dX12_cuts_10 (by constructor <;> omega) ?_
  refine lv_aload_n hX0 hB0 dX12_cuts_11 rfl (lv_at hl 0 rfl) ?_
  refine lv_aload_n hX0 hB0 dX12_cuts_12 rfl (lv_at hl 0 rfl) ?_
  refine z_get (Cn := RX12) (T := TX12) (N := 37) CX hW (v := .ref (o + 16)) zMO_0 rfl (fun w h => List.mem_cons_of_mem _ (List.mem_append_right _ h)) 30 (by decide) (List.mem_of_getElem? (i := 2) rfl) rfl rfl dX12_cuts_13 ?_
  refine lv_bipush (v := zI 17) hX0 hB0 dX12_cuts_16 (by decide) ?_
  refine lv_iload_n hX0 hB0 dX12_cuts_18 rfl (lv_at hl 1 rfl) ?_
  refine z_imul (z := 17 * high) CX dX12_cuts_19 rfl ?_
  refine z_iald (z := S 16 ((17 * high).toNat)) CX hW zMO_16 0 rfl (by refine ⟨?_, ?_, ?_⟩ <;> omega) rfl dX12_cuts_20 ?_
  have hr20 := hI.r16 ((17 * high).toNat)
  refine z_calli hW (va_runV (C := RX12) (As := [.int (zI (S 16 ((17 * high).toNat)))]) (rest := [.long (zL (S 17 ((17 * other).toNat))), .ref o]) CX.fix (zk_inverse l o S (S 16 ((17 * high).toNat)) hI (by constructor <;> omega)) (cwV 1 CX.fix.2.2.2.2 gX12_cuts_X12_inverse rfl rfl rfl (by decide +kernel) ⟨Nat.le_of_ble_eq_true rfl, Nat.le_of_ble_eq_true rfl⟩) (z_preV CX hW (r := (RX12, TX12, 37)) zMO_0 rfl) rfl rfl hl.1 rfl (lv_room (Nat.le_of_ble_eq_true rfl)) dX12_cuts_21 ⟨Nat.zero_le _, Nat.zero_le _⟩) (fun z21 gn H locs hok hW => ?_)
  obtain ⟨hz21, hg, hq21⟩ := hok
  rw [hg] at hW
  clear hg
  have e21 : zm_inverse S (S 16 ((17 * high).toNat)) = z21 := hz21.symm
  clear hz21
  refine z_i2l CX dX12_cuts_24 (by constructor <;> omega) ?_
  refine z_lmul (z := (S 17 ((17 * other).toNat)) * z21) CX dX12_cuts_25 rfl ?_
  have hm25 := zbox_mul0 (a := S 17 ((17 * other).toNat)) (b := z21) (A := 30) (B := 30) (by constructor <;> omega) (by constructor <;> omega) (C := 900) (by decide)
  refine z_calli hW (va_runV (C := RX12) (As := [.long (zL ((S 17 ((17 * other).toNat)) * z21))]) (rest := []) CX.fix (zk_modulo l o S ((S 17 ((17 * other).toNat)) * z21) hI (by constructor <;> omega)) (cwV 1 CX.fix.2.2.2.2 gX12_cuts_X12_modulo rfl rfl rfl (by decide +kernel) ⟨Nat.le_of_ble_eq_true rfl, Nat.le_of_ble_eq_true rfl⟩) (z_preV CX hW (r := (RX12, TX12, 37)) zMO_0 rfl) rfl rfl hl.1 rfl (lv_room (Nat.le_of_ble_eq_true rfl)) dX12_cuts_26 ⟨Nat.zero_le _, Nat.zero_le _⟩) (fun z26 gn H locs hok hW => ?_)
  obtain ⟨hz26, hg, hq26⟩ := hok
  rw [hg] at hW
  clear hg
  have e26 : zm_modulo S ((S 17 ((17 * other).toNat)) * z21) = z26 := hz26.symm
  clear hz26
  refine lv_istore_n (lv' := [(3, .int (zI z26)), (0, .ref o), (1, .int (zI high)), (2, .int (zI other))]) hX0 hB0 dX12_cuts_29 rfl hl (by decide) rfl (fun ls hl => ?_)
  refine lv_iload_n hX0 hB0 dX12_cuts_30 rfl (lv_at hl 3 rfl) ?_
  refine lv_iload_n hX0 hB0 dX12_cuts_31 rfl (lv_at hl 2 rfl) ?_
  refine z_isub (z := other - high) CX dX12_cuts_32 rfl ?_
  refine lv_istore (lv' := [(4, .int (zI (other - high))), (3, .int (zI z26)), (0, .ref o), (1, .int (zI high)), (2, .int (zI other))]) hX0 hB0 dX12_cuts_33 hl (by decide) rfl (fun ls hl => ?_)
  refine lv_iconst (v := zI 0) hX0 hB0 dX12_cuts_35 rfl ?_
  refine lv_istore (lv' := [(5, .int (zI 0)), (4, .int (zI (other - high))), (3, .int (zI z26)), (0, .ref o), (1, .int (zI high)), (2, .int (zI other))]) hX0 hB0 dX12_cuts_36 hl (by decide) rfl (fun ls hl => ?_)
  have hL38 : ∀ (fu : Nat) (i38 : Int) (S38 : zS2), ((0 ≤ i38 ∧ i38 ≤ 16 - (other - high) + 1) ∧ zfor (zm_cuts_L38 high other z26) 0 S (i38 - 0).toNat = S38 ∧ mI S38 ∧ (∀ kk ii : Nat, ¬ kk = 17 → S38 kk ii = S kk ii)) → ((16 - (other - high)) + 1 - i38).toNat < fu → ∀ (H : Heap) (locs : List Loc) (ls : Array Slot), zW D (zT cI cJ cZ cP cS cM) L (zQ L sz) st (zMO cI cJ o S38 f) st.heap H locs → lv_has ls 8 [(5, .int (zI i38)), (4, .int (zI (other - high))), (3, .int (zI z26)), (0, .ref o), (1, .int (zI high)), (2, .int (zI other))] → W pg l en ({ frames := 3, cells := 0, slots := 0, locals := 70 } : Room) st mi ag bl mt cd H locs 0 0 Q (F0 mi 38 ls []) := by
    intro fu
    induction fu with
    | zero => intro i38 S38 _ hfu; exact absurd hfu (Nat.not_lt_zero _)
    | succ fu ih38 =>
      intro i38 S38 hinv hfu38 H locs ls hW hl
      obtain ⟨⟨hlo38, hhi38⟩, hz38, hI38, hf38⟩ := hinv
      have hp38 := hI38.s10
      refine lv_iload hX0 hB0 dX12_cuts_38 (lv_at hl 0 rfl) ?_
      refine lv_iload hX0 hB0 dX12_cuts_40 (lv_at hl 1 rfl) ?_
      refine z_iadd (z := i38 + (other - high)) CX dX12_cuts_42 rfl ?_
      refine lv_bipush (v := zI 16) hX0 hB0 dX12_cuts_43 (by decide) ?_
      refine z_icmp_gt (tgt := 126) CX dX12_cuts_45 (by decide) (by constructor <;> omega) (by constructor <;> omega) (fun c_45 => ?_) (fun c_45 => ?_)
      ·
        have e38 : zfor (zm_cuts_L38 high other z26) 0 S ((16 - (other - high)) + 1 - 0).toNat = S38 := by rw [show ((16 - (other - high)) + 1 - 0).toNat = (i38 - 0).toNat by omega]; exact hz38
        have hE : zm_cuts S high other = S38 := by unfold zm_cuts; exact zlet_e e21 (zlet_e e26 (zlet_e e38 rfl))
        have hFr : ∀ kk ii : Nat, ¬ kk = 17 → S38 kk ii = S kk ii := fun kk ii hk => (hf38 kk ii (by omega))
        rw [← hQ]
        exact z_vret CX hW (by rw [hE]; exact ⟨rfl, hI38, hFr, trivial⟩) dX12_cuts_126
      ·
        refine lv_iconst (v := zI 0) hX0 hB0 dX12_cuts_48 rfl ?_
        refine lv_istore (lv' := [(6, .int (zI 0)), (5, .int (zI i38)), (4, .int (zI (other - high))), (3, .int (zI z26)), (0, .ref o), (1, .int (zI high)), (2, .int (zI other))]) hX0 hB0 dX12_cuts_49 hl (by decide) rfl (fun ls hl => ?_)
        have hL51 : ∀ (fu : Nat) (i51 : Int) (S51 : zS2), ((0 ≤ i51 ∧ i51 ≤ 16 - (i38 + (other - high)) + 1) ∧ zfor (zm_cuts_L51 high other z26 i38) 0 S38 (i51 - 0).toNat = S51 ∧ mI S51 ∧ (∀ kk ii : Nat, ¬ kk = 17 → S51 kk ii = S38 kk ii)) → ((16 - (i38 + (other - high))) + 1 - i51).toNat < fu → ∀ (H : Heap) (locs : List Loc) (ls : Array Slot), zW D (zT cI cJ cZ cP cS cM) L (zQ L sz) st (zMO cI cJ o S51 f) st.heap H locs → lv_has ls 8 [(6, .int (zI i51)), (5, .int (zI i38)), (4, .int (zI (other - high))), (3, .int (zI z26)), (0, .ref o), (1, .int (zI high)), (2, .int (zI other))] → W pg l en ({ frames := 3, cells := 0, slots := 0, locals := 70 } : Room) st mi ag bl mt cd H locs 0 0 Q (F0 mi 51 ls []) := by
          intro fu
          induction fu with
          | zero => intro i51 S51 _ hfu; exact absurd hfu (Nat.not_lt_zero _)
          | succ fu ih51 =>
            intro i51 S51 hinv hfu51 H locs ls hW hl
            obtain ⟨⟨hlo51, hhi51⟩, hz51, hI51, hf51⟩ := hinv
            have hp51 := hI51.s10
            refine lv_iload hX0 hB0 dX12_cuts_51 (lv_at hl 1 rfl) ?_
            refine lv_iload hX0 hB0 dX12_cuts_53 (lv_at hl 2 rfl) ?_
            refine z_iadd (z := i38 + (other - high)) CX dX12_cuts_55 rfl ?_
            refine lv_iload hX0 hB0 dX12_cuts_56 (lv_at hl 0 rfl) ?_
            refine z_iadd (z := (i38 + (other - high)) + i51) CX dX12_cuts_58 rfl ?_
            refine lv_bipush (v := zI 16) hX0 hB0 dX12_cuts_59 (by decide) ?_
            refine z_icmp_gt (tgt := 120) CX dX12_cuts_61 (by decide) (by constructor <;> omega) (by constructor <;> omega) (fun c_61 => ?_) (fun c_61 => ?_)
            ·
              have e51 : zfor (zm_cuts_L51 high other z26 i38) 0 S38 ((16 - (i38 + (other - high))) + 1 - 0).toNat = S51 := by rw [show ((16 - (i38 + (other - high))) + 1 - 0).toNat = (i51 - 0).toNat by omega]; exact hz51
              refine lv_iinc (v := zI (i38 + 1)) (lv' := [(5, .int (zI (i38 + 1))), (6, .int (zI i51)), (4, .int (zI (other - high))), (3, .int (zI z26)), (0, .ref o), (1, .int (zI high)), (2, .int (zI other))]) hX0 hB0 dX12_cuts_120 hl (k := 1) rfl (zI_add _ _) (by decide) rfl (fun ls hl => ?_)
              refine lv_goto (tgt := 38) hX0 hB0 dX12_cuts_123 (by decide) ?_
              exact ih38 (i38 + 1) S51 ⟨⟨by omega, by omega⟩, (zfor_s _ _ _ (by omega)).trans ((congrArg (zm_cuts_L38 high other z26 i38) hz38).trans (by unfold zm_cuts_L38; exact zlet_e e51 rfl)), hI51, fun kk ii hk => ((hf51 kk ii (by omega))).trans (hf38 kk ii (by omega))⟩ (by omega) H locs ls hW (lv_sub hl [0, 2, 3, 4, 5, 6] rfl)
            ·
              refine lv_bipush (v := zI 17) hX0 hB0 dX12_cuts_64 (by decide) ?_
              refine lv_iload hX0 hB0 dX12_cuts_66 (lv_at hl 1 rfl) ?_
              refine lv_iload hX0 hB0 dX12_cuts_68 (lv_at hl 2 rfl) ?_
              refine z_iadd (z := i38 + (other - high)) CX dX12_cuts_70 rfl ?_
              refine z_imul (z := 17 * (i38 + (other - high))) CX dX12_cuts_71 rfl ?_
              refine lv_iload hX0 hB0 dX12_cuts_72 (lv_at hl 0 rfl) ?_
              refine z_iadd (z := (17 * (i38 + (other - high))) + i51) CX dX12_cuts_74 rfl ?_
              refine lv_istore (lv' := [(7, .int (zI ((17 * (i38 + (other - high))) + i51))), (6, .int (zI i51)), (5, .int (zI i38)), (4, .int (zI (other - high))), (3, .int (zI z26)), (0, .ref o), (1, .int (zI high)), (2, .int (zI other))]) hX0 hB0 dX12_cuts_75 hl (by decide) rfl (fun ls hl => ?_)
              refine lv_aload_n hX0 hB0 dX12_cuts_77 rfl (lv_at hl 5 rfl) ?_
              refine z_get (Cn := RX12) (T := TX12) (N := 37) CX hW (v := .ref (o + 17)) zMO_0 rfl (fun w h => List.mem_cons_of_mem _ (List.mem_append_right _ h)) 31 (by decide) (List.mem_of_getElem? (i := 1) rfl) rfl rfl dX12_cuts_78 ?_
              refine lv_iload hX0 hB0 dX12_cuts_81 (lv_at hl 0 rfl) ?_
              refine lv_aload_n hX0 hB0 dX12_cuts_83 rfl (lv_at hl 5 rfl) ?_
              refine lv_aload_n hX0 hB0 dX12_cuts_84 rfl (lv_at hl 5 rfl) ?_
              refine z_get (Cn := RX12) (T := TX12) (N := 37) CX hW (v := .ref (o + 17)) zMO_0 rfl (fun w h => List.mem_cons_of_mem _ (List.mem_append_right _ h)) 31 (by decide) (List.mem_of_getElem? (i := 1) rfl) rfl rfl dX12_cuts_85 ?_
              refine lv_iload hX0 hB0 dX12_cuts_88 (lv_at hl 0 rfl) ?_
              refine z_iald (z := S51 17 (((17 * (i38 + (other - high))) + i51).toNat)) CX hW zMO_17 0 rfl (by refine ⟨?_, ?_, ?_⟩ <;> omega) rfl dX12_cuts_90 ?_
              have hr90 := hI51.r17 (((17 * (i38 + (other - high))) + i51).toNat)
              refine z_i2l CX dX12_cuts_91 (by constructor <;> omega) ?_
              refine lv_iload_n hX0 hB0 dX12_cuts_92 rfl (lv_at hl 4 rfl) ?_
              refine z_i2l CX dX12_cuts_93 (by constructor <;> omega) ?_
              refine lv_aload_n hX0 hB0 dX12_cuts_94 rfl (lv_at hl 5 rfl) ?_
              refine z_get (Cn := RX12) (T := TX12) (N := 37) CX hW (v := .ref (o + 16)) zMO_0 rfl (fun w h => List.mem_cons_of_mem _ (List.mem_append_right _ h)) 30 (by decide) (List.mem_of_getElem? (i := 2) rfl) rfl rfl dX12_cuts_95 ?_
              refine lv_bipush (v := zI 17) hX0 hB0 dX12_cuts_98 (by decide) ?_
              refine lv_iload hX0 hB0 dX12_cuts_100 (lv_at hl 2 rfl) ?_
              refine z_imul (z := 17 * i38) CX dX12_cuts_102 rfl ?_
              refine lv_iload hX0 hB0 dX12_cuts_103 (lv_at hl 1 rfl) ?_
              refine z_iadd (z := (17 * i38) + i51) CX dX12_cuts_105 rfl ?_
              refine z_iald (z := S51 16 (((17 * i38) + i51).toNat)) CX hW zMO_16 0 rfl (by refine ⟨?_, ?_, ?_⟩ <;> omega) rfl dX12_cuts_106 ?_
              have hr106 := hI51.r16 (((17 * i38) + i51).toNat)
              refine z_i2l CX dX12_cuts_107 (by constructor <;> omega) ?_
              refine z_lmul (z := z26 * (S51 16 (((17 * i38) + i51).toNat))) CX dX12_cuts_108 rfl ?_
              have hm108 := zbox_mul0 (a := z26) (b := S51 16 (((17 * i38) + i51).toNat)) (A := 30) (B := 30) (by constructor <;> omega) (by constructor <;> omega) (C := 900) (by decide)
              refine z_lsub (z := (S51 17 (((17 * (i38 + (other - high))) + i51).toNat)) - (z26 * (S51 16 (((17 * i38) + i51).toNat)))) CX dX12_cuts_109 rfl ?_
              refine z_calli hW (va_runV (C := RX12) (As := [.long (zL ((S51 17 (((17 * (i38 + (other - high))) + i51).toNat)) - (z26 * (S51 16 (((17 * i38) + i51).toNat)))))]) (rest := [.int (zI ((17 * (i38 + (other - high))) + i51)), .ref (o + 17)]) CX.fix (zk_modulo l o S51 ((S51 17 (((17 * (i38 + (other - high))) + i51).toNat)) - (z26 * (S51 16 (((17 * i38) + i51).toNat)))) hI51 (by constructor <;> omega)) (cwV 1 CX.fix.2.2.2.2 gX12_cuts_X12_modulo rfl rfl rfl (by decide +kernel) ⟨Nat.le_of_ble_eq_true rfl, Nat.le_of_ble_eq_true rfl⟩) (z_preV CX hW (r := (RX12, TX12, 37)) zMO_0 rfl) rfl rfl hl.1 rfl (lv_room (Nat.le_of_ble_eq_true rfl)) dX12_cuts_110 ⟨Nat.zero_le _, Nat.zero_le _⟩) (fun z110 gn H locs hok hW => ?_)
              obtain ⟨hz110, hg, hq110⟩ := hok
              rw [hg] at hW
              clear hg
              have e110 : zm_modulo S51 ((S51 17 (((17 * (i38 + (other - high))) + i51).toNat)) - (z26 * (S51 16 (((17 * i38) + i51).toNat)))) = z110 := hz110.symm
              clear hz110
              obtain ⟨S113, e113⟩ : ∃ q, za S51 17 (((17 * (i38 + (other - high))) + i51).toNat) z110 = q := ⟨_, rfl⟩
              refine z_iast CX hW zMO_17 0 rfl (by refine ⟨?_, ?_, ?_⟩ <;> omega) (g := zMO cI cJ o S113 f) (zMO_w17.trans (by rw [← e113]; rfl)) dX12_cuts_113 (fun H locs hW => ?_)
              have hI113 : mI S113 := e113 ▸ hI51.w17 (by constructor <;> omega)
              refine lv_iinc (v := zI (i51 + 1)) (lv' := [(6, .int (zI (i51 + 1))), (7, .int (zI ((17 * (i38 + (other - high))) + i51))), (5, .int (zI i38)), (4, .int (zI (other - high))), (3, .int (zI z26)), (0, .ref o), (1, .int (zI high)), (2, .int (zI other))]) hX0 hB0 dX12_cuts_114 hl (k := 1) rfl (zI_add _ _) (by decide) rfl (fun ls hl => ?_)
              refine lv_goto (tgt := 51) hX0 hB0 dX12_cuts_117 (by decide) ?_
              exact ih51 (i51 + 1) S113 ⟨⟨by omega, by omega⟩, (zfor_s _ _ _ (by omega)).trans ((congrArg (zm_cuts_L51 high other z26 i38 i51) hz51).trans (by unfold zm_cuts_L51; exact zlet_e e110 (zlet_e e113 rfl))), hI113, fun kk ii hk => ((show S113 kk ii = S51 kk ii from by rw [← e113]; exact za_ne (by omega))).trans (hf51 kk ii (by omega))⟩ (by omega) H locs ls hW (lv_sub hl [0, 2, 3, 4, 5, 6, 7] rfl)
        exact hL51 _ 0 S38 ⟨⟨by omega, by omega⟩, zfor_0 _ _ _, hI38, fun kk ii hk => rfl⟩ (Nat.lt_succ_self _) H locs ls hW (lv_sub hl [0, 1, 2, 3, 4, 5, 6] rfl)
  exact hL38 _ 0 S ⟨⟨by omega, by omega⟩, zfor_0 _ _ _, hI, fun kk ii hk => rfl⟩ (Nat.lt_succ_self _) H locs ls hW (lv_sub hl [0, 1, 2, 3, 4, 5] rfl)
/-- one RULE of the reduction -/
def zq_step (S : zS2) : zS2 := zlet (zm_greatestOf_f S) (fun z100 => zlet (zm_greatestOf_g S) (fun z111 => if z100 = -1 then zlet (zm_goesBy S 1) (fun S122 => zlet (zm_leastOf_g S122) (fun _ => zlet (zm_splits S122) (fun S138 => S138))) else if z111 = -1 then zlet (zm_goesBy S 2) (fun S159 => zlet (zm_swaps S159) (fun S163 => S163)) else if z100 ≤ z111 then zlet (zm_goesBy S 3) (fun S171 => zlet (zm_cuts S171 z100 z111) (fun S179 => S179)) else zlet (zm_goesBy S 2) (fun S159 => zlet (zm_swaps S159) (fun S163 => S163))))
/-- it ends within so many -/
def zqE : Nat → zS2 → Prop
  | 0, _ => False
  | n + 1, S => S 16 (0 : Int).toNat ≠ 0 ∨ S 17 (0 : Int).toNat ≠ 0 ∨ zqE n (zq_step S)
/-- what holds of the CURVES whatever the tools hold -/
def zqH (S : zS2) : Prop := ∀ S' : zS2, S' 0 10 = S 0 10 → S' 0 13 = S 0 13 → (∀ q : Nat, q < 3500 → S' 3 q = S 3 q) → mI S' → (∀ c : Int, 0 ≤ c → c < S' 0 13 → 0 ≤ zm_degreeOf S' c) ∧ ∀ a b p : Int, 0 ≤ a → a < S' 0 13 → 0 ≤ b → b < S' 0 13 → 0 ≤ p → p < S' 0 10 * S' 0 10 + S' 0 10 + 1 → zm_valueOf (zm_laysCommon S' a b) 143 (zm_degreeOf (zm_laysCommon S' a b) 143) p ≠ 0 → zqE 3999 (zm_laysLong_g (zm_laysLong_f (zm_laysCommon S' a b) a p) b p)
theorem zqH.mono {S S1 : zS2} (h : zqH S) (h1 : S1 0 10 = S 0 10) (h2 : S1 0 13 = S 0 13) (h3 : ∀ q : Nat, q < 3500 → S1 3 q = S 3 q) : zqH S1 := fun S' k1 k2 k3 k4 => h S' (k1.trans h1) (k2.trans h2) (fun q hq => (k3 q hq).trans (h3 q hq)) k4
theorem zqH.deg {S : zS2} (h : zqH S) (hI : mI S) {c : Int} (h0 : 0 ≤ c) (h1 : c < S 0 13) : 0 ≤ zm_degreeOf S c := (h S rfl rfl (fun _ _ => rfl) hI).1 c h0 h1
theorem zqH.ends {S : zS2} (h : zqH S) (hI : mI S) {a b p : Int} (h0 : 0 ≤ a) (h1 : a < S 0 13) (h2 : 0 ≤ b) (h3 : b < S 0 13) (h4 : 0 ≤ p) (h5 : p < S 0 10 * S 0 10 + S 0 10 + 1) : zm_valueOf (zm_laysCommon S a b) 143 (zm_degreeOf (zm_laysCommon S a b) 143) p ≠ 0 → zqE 3999 (zm_laysLong_g (zm_laysLong_f (zm_laysCommon S a b) a p) b p) := (h S rfl rfl (fun _ _ => rfl) hI).2 a b p h0 h1 h2 h3 h4 h5
def zm_timesAt_L3  : Int → zS2 → zS2 := fun i3 s3 => (fun (S3 : zS2) => zlet (za S3 18 i3.toNat 0) (fun S16 => S16)) s3
def zm_timesAt_W78  : Nat → Int → zS2 → Int × zS2
  | 0, t78, S78 => (t78, S78)
  | fu78 + 1, t78, S78 => (if S78 16 ((0 : Int).toNat) = 0 then (if S78 17 ((0 : Int).toNat) = 0 then zlet (zm_greatestOf_f S78) (fun z100 => zlet (zm_greatestOf_g S78) (fun z109 => (if z100 = -1 then zlet (zm_goesBy S78 1) (fun S122 => zlet (zm_leastOf_g S122) (fun z131 => zlet (zm_splits S122) (fun S138 => zm_timesAt_W78 fu78 (t78 + z131) S138))) else (if z109 = -1 then zlet (zm_goesBy S78 2) (fun S159 => zlet (zm_swaps S159) (fun S163 => zm_timesAt_W78 fu78 t78 S163)) else (if z100 ≤ z109 then zlet (zm_goesBy S78 3) (fun S171 => zlet (zm_cuts S171 z100 z109) (fun S179 => zm_timesAt_W78 fu78 t78 S179)) else zlet (zm_goesBy S78 2) (fun S159 => zlet (zm_swaps S159) (fun S163 => zm_timesAt_W78 fu78 t78 S163))))))) else (t78, S78)) else (t78, S78))
def zm_timesAt (S : zS2) (a : Int) (b : Int) (pt : Int) : Int × zS2 := zlet (zfor (zm_timesAt_L3) 0 S (3 + 1 - 0 : Int).toNat) (fun S3 => zlet (za S3 0 33 0) (fun S25 => zlet (zm_laysCommon S25 a b) (fun S31 => zlet (zm_degreeOf S31 143) (fun z42 => zlet (zm_valueOf S31 143 z42 pt) (fun z46 => (if z46 = 0 then (-2, S31) else zlet (zm_laysLong_f S31 a pt) (fun S62 => zlet (zm_laysLong_g S62 b pt) (fun S72 => zlet (zm_timesAt_W78 ((3999 : Nat)) 0 S72) (fun q78 => (fun (t78 : Int) (S78 : zS2) => zlet (zm_goesBy S78 0) (fun S187 => (t78, S187))) q78.1 q78.2)))))))))
set_option maxRecDepth 100000 in
set_option maxHeartbeats 4000000 in
theorem zk_timesAt (l : Launch) {D : va_G} {cI cJ cZ cP cS cM : ClassId} {L : List Nat} {sz : Nat} {f : Nat → va_E} (o : Nat) (S : zS2) (a : Int) (b : Int) (pt : Int) (hI : mI S) (ha : 0 ≤ a ∧ a ≤ 5) (hb : 0 ≤ b ∧ b ≤ 5) (hpt : 0 ≤ pt ∧ pt ≤ 992) (hH : zqH S) (hab : a < S 0 13 ∧ b < S 0 13) (hpp : pt < S 0 10 * S 0 10 + S 0 10 + 1) : zMi l yX12_timesAt wsX12_timesAt 6 154 D (zT cI cJ cZ cP cS cM) L sz (zMO cI cJ o S f) [.ref o, .int (zI a), .int (zI b), .int (zI pt)] (fun zv gv => zv = (zm_timesAt S a b pt).1 ∧ gv = zMO cI cJ o (zm_timesAt S a b pt).2 f ∧ mI (zm_timesAt S a b pt).2 ∧ (∀ kk ii : Nat, ¬ (kk = 0 ∧ ii = 33) ∧ ¬ kk = 13 ∧ ¬ kk = 14 ∧ ¬ kk = 15 ∧ ¬ kk = 16 ∧ ¬ kk = 17 ∧ ¬ kk = 18 ∧ ¬ kk = 19 ∧ ¬ (kk = 3 ∧ 3500 ≤ (ii : Int)) → (zm_timesAt S a b pt).2 kk ii = S kk ii) ∧ -4000 ≤ zv ∧ zv ≤ 64000 ∧ 0 ≤ ((zm_timesAt S a b pt).2) 0 33 ∧ ((zm_timesAt S a b pt).2) 0 33 ≤ 4000) := by
  refine zWalk.met (nL := 7) (ret := (some .int)) (cc := cX12_timesAt) (by decide) rfl (Nat.le_of_ble_eq_true rfl) ?_
  intro pg en st mi ag bl mt cd ls CX hW hl
  have CX : zC pg st mi ag mt cd cX12_timesAt 7 (some .int) RX12 wsX12_timesAt := CX
  generalize hQ : MQ bl _ ag st 0 0 _ = Q
  have hX0 := CX.1
  have hB0 := CX.2.1
  have hl : lv_has ls 7 [(0, .ref o), (1, .int (zI a)), (2, .int (zI b)), (3, .int (zI pt))] := hl
  obtain ⟨H, eH⟩ : ∃ H, H = st.heap := ⟨_, rfl⟩
  obtain ⟨locs, eL⟩ : ∃ L : List Loc, L = [] := ⟨_, rfl⟩
  have hW : zW D (zT cI cJ cZ cP cS cM) L (zQ L sz) st (zMO cI cJ o S f) st.heap H locs := by rw [eH, eL]; exact hW
  suffices hgo : W pg l en ({ frames := 6, cells := 0, slots := 0, locals := 154 } : Room) st mi ag bl mt cd H locs 0 0 Q (F0 mi 0 ls []) by rw [eH, eL] at hgo; exact hgo
  clear eH eL
  have hpb := hI.s10
  refine lv_iconst (v := zI 0) hX0 hB0 dX12_timesAt_0 rfl ?_
  refine lv_istore (lv' := [(4, .int (zI 0)), (0, .ref o), (1, .int (zI a)), (2, .int (zI b)), (3, .int (zI pt))]) hX0 hB0 dX12_timesAt_1 hl (by decide) rfl (fun ls hl => ?_)
  have hL3 : ∀ (fu : Nat) (i3 : Int) (S3 : zS2), ((0 ≤ i3 ∧ i3 ≤ 3 + 1) ∧ zfor (zm_timesAt_L3) 0 S (i3 - 0).toNat = S3 ∧ mI S3 ∧ (∀ kk ii : Nat, ¬ kk = 18 → S3 kk ii = S kk ii)) → (3 + 1 - i3).toNat < fu → ∀ (H : Heap) (locs : List Loc) (ls : Array Slot), zW D (zT cI cJ cZ cP cS cM) L (zQ L sz) st (zMO cI cJ o S3 f) st.heap H locs → lv_has ls 7 [(4, .int (zI i3)), (0, .ref o), (1, .int (zI a)), (2, .int (zI b)), (3, .int (zI pt))] → W pg l en ({ frames := 6, cells := 0, slots := 0, locals := 154 } : Room) st mi ag bl mt cd H locs 0 0 Q (F0 mi 3 ls []) := by
    intro fu
    induction fu with
    | zero => intro i3 S3 _ hfu; exact absurd hfu (Nat.not_lt_zero _)
    | succ fu ih3 =>
      intro i3 S3 hinv hfu3 H locs ls hW hl
      obtain ⟨⟨hlo3, hhi3⟩, hz3, hI3, hf3⟩ := hinv
      have hp3 := hI3.s10
      have t3_10 : S3 0 10 = S 0 10 := hf3 0 10 (by omega)
      have t3_13 : S3 0 13 = S 0 13 := hf3 0 13 (by omega)
      have t3_33 : S3 0 33 = S 0 33 := hf3 0 33 (by omega)
      refine lv_iload hX0 hB0 dX12_timesAt_3 (lv_at hl 0 rfl) ?_
      refine lv_iconst (v := zI 4) hX0 hB0 dX12_timesAt_5 rfl ?_
      refine z_icmp_ge (tgt := 23) CX dX12_timesAt_6 (by decide) (by constructor <;> omega) (by constructor <;> omega) (fun c_6 => ?_) (fun c_6 => ?_)
      ·
        have e3 : zfor (zm_timesAt_L3) 0 S (3 + 1 - 0 : Int).toNat = S3 := by rw [show (3 + 1 - 0 : Int).toNat = (i3 - 0).toNat by omega]; exact hz3
        refine lv_aload_n hX0 hB0 dX12_timesAt_23 rfl (lv_at hl 1 rfl) ?_
        refine lv_iconst (v := zI 0) hX0 hB0 dX12_timesAt_24 rfl ?_
        obtain ⟨S25, e25⟩ : ∃ q, za S3 0 33 0 = q := ⟨_, rfl⟩
        refine z_put (Cn := RX12) (T := TX12) (N := 37) CX hW (v := .int (zI 0)) zMO_0 rfl (fun w h => List.mem_cons_of_mem _ (List.mem_append_right _ h)) tyX12 tyX12_ok nmX12 33 (by decide) (List.mem_of_getElem? (i := 2) rfl) rfl rfl rfl rfl (Nat.le_of_ble_eq_true rfl) (g := zMO cI cJ o S25 f) (zMO_s33.trans (by rw [e25])) dX12_timesAt_25 (fun H locs hW => ?_)
        have hI25 : mI S25 := e25 ▸ hI3.v33 
        have t25_10 : S25 0 10 = S3 0 10 := by rw [← e25]; exact za_ne (by omega)
        have t25_13 : S25 0 13 = S3 0 13 := by rw [← e25]; exact za_ne (by omega)
        have t25_33 : S25 0 33 = 0 := by rw [← e25]; exact za_same
        refine lv_aload_n hX0 hB0 dX12_timesAt_28 rfl (lv_at hl 1 rfl) ?_
        refine lv_iload_n hX0 hB0 dX12_timesAt_29 rfl (lv_at hl 2 rfl) ?_
        refine lv_iload_n hX0 hB0 dX12_timesAt_30 rfl (lv_at hl 3 rfl) ?_
        have hFc34007 : ∀ kk ii : Nat, ¬ (kk = 0 ∧ ii = 33) ∧ ¬ kk = 13 ∧ ¬ kk = 14 ∧ ¬ kk = 15 ∧ ¬ kk = 16 ∧ ¬ kk = 17 ∧ ¬ kk = 18 ∧ ¬ kk = 19 ∧ ¬ (kk = 3 ∧ 3500 ≤ (ii : Int)) → S25 kk ii = S kk ii := fun kk ii hk => ((show S25 kk ii = S3 kk ii from by rw [← e25]; exact za_ne (by omega))).trans (hf3 kk ii (by omega))
        refine z_callv hW (va_runV (C := RX12) (As := [.int (zI a), .int (zI b)]) (rest := []) CX.fix (zk_laysCommon l o S25 a b hI25 (by constructor <;> omega) (by constructor <;> omega) ⟨zqH.deg (hH.mono (hFc34007 0 10 (by omega)) (hFc34007 0 13 (by omega)) (fun qq hqq => hFc34007 3 qq (by omega))) hI25 (by omega) (by omega), zqH.deg (hH.mono (hFc34007 0 10 (by omega)) (hFc34007 0 13 (by omega)) (fun qq hqq => hFc34007 3 qq (by omega))) hI25 (by omega) (by omega)⟩) (cwV 2 CX.fix.2.2.2.2 gX12_timesAt_X12_laysCommon rfl rfl rfl (by decide +kernel) ⟨Nat.le_of_ble_eq_true rfl, Nat.le_of_ble_eq_true rfl⟩) (z_preV CX hW (r := (RX12, TX12, 37)) zMO_0 rfl) rfl rfl hl.1 rfl (lv_room (Nat.le_of_ble_eq_true rfl)) dX12_timesAt_31 ⟨Nat.zero_le _, Nat.zero_le _⟩) (fun gn H locs hok hW => ?_)
        obtain ⟨hg, hI31, hf31, hq31⟩ := hok
        obtain ⟨S31, e31⟩ : ∃ q, zm_laysCommon S25 a b = q := ⟨_, rfl⟩
        rw [e31] at hg hI31 hf31
        have t31_10 : S31 0 10 = S25 0 10 := hf31 0 10 (by omega)
        have t31_13 : S31 0 13 = S25 0 13 := hf31 0 13 (by omega)
        have t31_33 : S31 0 33 = S25 0 33 := hf31 0 33 (by omega)
        skip
        try rw [e31] at hq31
        rw [hg] at hW
        clear hg
        refine lv_aload_n hX0 hB0 dX12_timesAt_34 rfl (lv_at hl 1 rfl) ?_
        refine lv_sipush (v := zI 143) hX0 hB0 dX12_timesAt_35 (by decide) ?_
        refine lv_aload_n hX0 hB0 dX12_timesAt_38 rfl (lv_at hl 1 rfl) ?_
        refine lv_sipush (v := zI 143) hX0 hB0 dX12_timesAt_39 (by decide) ?_
        refine z_calli hW (va_runV (C := RX12) (As := [.int (zI 143)]) (rest := [.int (zI 143), .ref o]) CX.fix (zk_degreeOf l o S31 143 hI31 (by constructor <;> omega)) (cwV 1 CX.fix.2.2.2.2 gX12_timesAt_X12_degreeOf rfl rfl rfl (by decide +kernel) ⟨Nat.le_of_ble_eq_true rfl, Nat.le_of_ble_eq_true rfl⟩) (z_preV CX hW (r := (RX12, TX12, 37)) zMO_0 rfl) rfl rfl hl.1 rfl (lv_room (Nat.le_of_ble_eq_true rfl)) dX12_timesAt_42 ⟨Nat.zero_le _, Nat.zero_le _⟩) (fun z42 gn H locs hok hW => ?_)
        obtain ⟨hz42, hg, hq42⟩ := hok
        rw [hg] at hW
        clear hg
        have e42 : zm_degreeOf S31 143 = z42 := hz42.symm
        clear hz42
        refine lv_iload_n hX0 hB0 dX12_timesAt_45 rfl (lv_at hl 4 rfl) ?_
        refine z_calli hW (va_runV (C := RX12) (As := [.int (zI 143), .int (zI z42), .int (zI pt)]) (rest := []) CX.fix (zk_valueOf l o S31 143 z42 pt hI31 (by constructor <;> omega) (by constructor <;> omega) (by constructor <;> omega)) (cwV 3 CX.fix.2.2.2.2 gX12_timesAt_X12_valueOf rfl rfl rfl (by decide +kernel) ⟨Nat.le_of_ble_eq_true rfl, Nat.le_of_ble_eq_true rfl⟩) (z_preV CX hW (r := (RX12, TX12, 37)) zMO_0 rfl) rfl rfl hl.1 rfl (lv_room (Nat.le_of_ble_eq_true rfl)) dX12_timesAt_46 ⟨Nat.zero_le _, Nat.zero_le _⟩) (fun z46 gn H locs hok hW => ?_)
        obtain ⟨hz46, hg, hq46⟩ := hok
        rw [hg] at hW
        clear hg
        have e46 : zm_valueOf S31 143 z42 pt = z46 := hz46.symm
        clear hz46
        refine z_if_ne (tgt := 55) CX dX12_timesAt_49 (by decide) (by constructor <;> omega) (fun c_49 => ?_) (fun c_49 => ?_)
        ·
          refine lv_aload_n hX0 hB0 dX12_timesAt_55 rfl (lv_at hl 1 rfl) ?_
          refine lv_aload_n hX0 hB0 dX12_timesAt_56 rfl (lv_at hl 1 rfl) ?_
          refine z_get (Cn := RX12) (T := TX12) (N := 37) CX hW (v := .ref (o + 16)) zMO_0 rfl (fun w h => List.mem_cons_of_mem _ (List.mem_append_right _ h)) 30 (by decide) (List.mem_of_getElem? (i := 3) rfl) rfl rfl dX12_timesAt_57 ?_
          refine lv_iload_n hX0 hB0 dX12_timesAt_60 rfl (lv_at hl 2 rfl) ?_
          refine lv_iload_n hX0 hB0 dX12_timesAt_61 rfl (lv_at hl 4 rfl) ?_
          refine z_callv hW (va_runV (C := RX12) (As := [.ref (o + 16), .int (zI a), .int (zI pt)]) (rest := []) CX.fix (zk_laysLong_f l o S31 a pt hI31 (by constructor <;> omega) (by constructor <;> omega)) (cwV 3 CX.fix.2.2.2.2 gX12_timesAt_X12_laysLong rfl rfl rfl (by decide +kernel) ⟨Nat.le_of_ble_eq_true rfl, Nat.le_of_ble_eq_true rfl⟩) (z_preV CX hW (r := (RX12, TX12, 37)) zMO_0 rfl) rfl rfl hl.1 rfl (lv_room (Nat.le_of_ble_eq_true rfl)) dX12_timesAt_62 ⟨Nat.zero_le _, Nat.zero_le _⟩) (fun gn H locs hok hW => ?_)
          obtain ⟨hg, hI62, hf62, hq62⟩ := hok
          obtain ⟨S62, e62⟩ : ∃ q, zm_laysLong_f S31 a pt = q := ⟨_, rfl⟩
          rw [e62] at hg hI62 hf62
          have t62_10 : S62 0 10 = S31 0 10 := hf62 0 10 (by omega)
          have t62_13 : S62 0 13 = S31 0 13 := hf62 0 13 (by omega)
          have t62_33 : S62 0 33 = S31 0 33 := hf62 0 33 (by omega)
          skip
          try rw [e62] at hq62
          rw [hg] at hW
          clear hg
          refine lv_aload_n hX0 hB0 dX12_timesAt_65 rfl (lv_at hl 1 rfl) ?_
          refine lv_aload_n hX0 hB0 dX12_timesAt_66 rfl (lv_at hl 1 rfl) ?_
          refine z_get (Cn := RX12) (T := TX12) (N := 37) CX hW (v := .ref (o + 17)) zMO_0 rfl (fun w h => List.mem_cons_of_mem _ (List.mem_append_right _ h)) 31 (by decide) (List.mem_of_getElem? (i := 4) rfl) rfl rfl dX12_timesAt_67 ?_
          refine lv_iload_n hX0 hB0 dX12_timesAt_70 rfl (lv_at hl 3 rfl) ?_
          refine lv_iload_n hX0 hB0 dX12_timesAt_71 rfl (lv_at hl 4 rfl) ?_
          refine z_callv hW (va_runV (C := RX12) (As := [.ref (o + 17), .int (zI b), .int (zI pt)]) (rest := []) CX.fix (zk_laysLong_g l o S62 b pt hI62 (by constructor <;> omega) (by constructor <;> omega)) (cwV 3 CX.fix.2.2.2.2 gX12_timesAt_X12_laysLong rfl rfl rfl (by decide +kernel) ⟨Nat.le_of_ble_eq_true rfl, Nat.le_of_ble_eq_true rfl⟩) (z_preV CX hW (r := (RX12, TX12, 37)) zMO_0 rfl) rfl rfl hl.1 rfl (lv_room (Nat.le_of_ble_eq_true rfl)) dX12_timesAt_72 ⟨Nat.zero_le _, Nat.zero_le _⟩) (fun gn H locs hok hW => ?_)
          obtain ⟨hg, hI72, hf72, hq72⟩ := hok
          obtain ⟨S72, e72⟩ : ∃ q, zm_laysLong_g S62 b pt = q := ⟨_, rfl⟩
          rw [e72] at hg hI72 hf72
          have t72_10 : S72 0 10 = S62 0 10 := hf72 0 10 (by omega)
          have t72_13 : S72 0 13 = S62 0 13 := hf72 0 13 (by omega)
          have t72_33 : S72 0 33 = S62 0 33 := hf72 0 33 (by omega)
          skip
          try rw [e72] at hq72
          rw [hg] at hW
          clear hg
          refine lv_iconst (v := zI 0) hX0 hB0 dX12_timesAt_75 rfl ?_
          refine lv_istore (lv' := [(4, .int (zI 0)), (0, .ref o), (1, .int (zI a)), (2, .int (zI b)), (3, .int (zI pt))]) hX0 hB0 dX12_timesAt_76 hl (by decide) rfl (fun ls hl => ?_)
          have hXt78 : ∀ (t78 : Int) (S78 : zS2), (zm_timesAt_W78 ((3999 : Nat)) 0 S72 = (t78, S78) ∧ mI S78 ∧ (∀ kk ii : Nat, ¬ (kk = 0 ∧ ii = 33) ∧ ¬ kk = 16 ∧ ¬ kk = 17 ∧ ¬ kk = 18 ∧ ¬ kk = 19 → S78 kk ii = S72 kk ii) ∧ (0 ≤ S78 0 33 ∧ S78 0 33 ≤ 3999 ∧ -3999 ≤ t78 ∧ t78 ≤ 64000)) → ∀ (H : Heap) (locs : List Loc) (ls : Array Slot), zW D (zT cI cJ cZ cP cS cM) L (zQ L sz) st (zMO cI cJ o S78 f) st.heap H locs → lv_has ls 7 [(4, .int (zI t78)), (0, .ref o), (1, .int (zI a)), (2, .int (zI b)), (3, .int (zI pt))] → W pg l en ({ frames := 6, cells := 0, slots := 0, locals := 154 } : Room) st mi ag bl mt cd H locs 0 0 Q (F0 mi 185 ls []) := by
            intro t78 S78 hinv H locs ls hW hl
            obtain ⟨e78, hI78, hf78, hv78⟩ := hinv
            have hp78 := hI78.s10
            have t78_10 : S78 0 10 = S72 0 10 := hf78 0 10 (by omega)
            have t78_13 : S78 0 13 = S72 0 13 := hf78 0 13 (by omega)
            refine lv_aload_n hX0 hB0 dX12_timesAt_185 rfl (lv_at hl 1 rfl) ?_
            refine lv_iconst (v := zI 0) hX0 hB0 dX12_timesAt_186 rfl ?_
            refine z_callv hW (va_runV (C := RX12) (As := [.int (zI 0)]) (rest := []) CX.fix (zk_goesBy l o S78 0 hI78 (by constructor <;> omega) (by omega)) (cwV 1 CX.fix.2.2.2.2 gX12_timesAt_X12_goesBy rfl rfl rfl (by decide +kernel) ⟨Nat.le_of_ble_eq_true rfl, Nat.le_of_ble_eq_true rfl⟩) (z_preV CX hW (r := (RX12, TX12, 37)) zMO_0 rfl) rfl rfl hl.1 rfl (lv_room (Nat.le_of_ble_eq_true rfl)) dX12_timesAt_187 ⟨Nat.zero_le _, Nat.zero_le _⟩) (fun gn H locs hok hW => ?_)
            obtain ⟨hg, hI187, hf187, hq187⟩ := hok
            obtain ⟨S187, e187⟩ : ∃ q, zm_goesBy S78 0 = q := ⟨_, rfl⟩
            rw [e187] at hg hI187 hf187
            have t187_10 : S187 0 10 = S78 0 10 := hf187 0 10 (by omega)
            have t187_13 : S187 0 13 = S78 0 13 := hf187 0 13 (by omega)
            skip
            try rw [e187] at hq187
            rw [hg] at hW
            clear hg
            refine lv_iload hX0 hB0 dX12_timesAt_190 (lv_at hl 0 rfl) ?_
            have hE : zm_timesAt S a b pt = (t78, S187) := by unfold zm_timesAt; exact zlet_e e3 (zlet_e e25 (zlet_e e31 (zlet_e e42 (zlet_e e46 (zif_f c_49 (zlet_e e62 (zlet_e e72 (zlet_e e78 (zlet_e e187 rfl)))))))))
            have hFr : ∀ kk ii : Nat, ¬ (kk = 0 ∧ ii = 33) ∧ ¬ kk = 13 ∧ ¬ kk = 14 ∧ ¬ kk = 15 ∧ ¬ kk = 16 ∧ ¬ kk = 17 ∧ ¬ kk = 18 ∧ ¬ kk = 19 ∧ ¬ (kk = 3 ∧ 3500 ≤ (ii : Int)) → S187 kk ii = S kk ii := fun kk ii hk => (((((((hf187 kk ii (by omega))).trans (hf78 kk ii (by omega))).trans (hf72 kk ii (by omega))).trans (hf62 kk ii (by omega))).trans (hf31 kk ii (by omega))).trans (show S25 kk ii = S3 kk ii from by rw [← e25]; exact za_ne (by omega))).trans (hf3 kk ii (by omega))
            rw [← hQ]
            exact z_iret (z := t78) CX hW (by rw [hE]; exact ⟨rfl, rfl, hI187, hFr, (show -4000 ≤ t78 ∧ t78 ≤ 64000 ∧ 0 ≤ S187 0 33 ∧ S187 0 33 ≤ 4000 from by omega)⟩) rfl dX12_timesAt_192
          have hL78 : ∀ (fu : Nat) (t78 : Int) (S78 : zS2), (zm_timesAt_W78 ((3999 : Nat)) 0 S72 = zm_timesAt_W78 fu t78 S78 ∧ mI S78 ∧ (∀ kk ii : Nat, ¬ (kk = 0 ∧ ii = 33) ∧ ¬ kk = 16 ∧ ¬ kk = 17 ∧ ¬ kk = 18 ∧ ¬ kk = 19 → S78 kk ii = S72 kk ii) ∧ (zqE fu S78 ∧ 0 ≤ S78 0 33 ∧ S78 0 33 + fu ≤ 3999 ∧ -3999 + fu ≤ t78 ∧ t78 ≤ 16 * (3999 - fu))) → 0 < fu → ∀ (H : Heap) (locs : List Loc) (ls : Array Slot), zW D (zT cI cJ cZ cP cS cM) L (zQ L sz) st (zMO cI cJ o S78 f) st.heap H locs → lv_has ls 7 [(4, .int (zI t78)), (0, .ref o), (1, .int (zI a)), (2, .int (zI b)), (3, .int (zI pt))] → W pg l en ({ frames := 6, cells := 0, slots := 0, locals := 154 } : Room) st mi ag bl mt cd H locs 0 0 Q (F0 mi 78 ls []) := by
            intro fu
            induction fu with
            | zero => intro t78 S78 _ hfu; exact absurd hfu (Nat.not_lt_zero _)
            | succ fu ih78 =>
              intro t78 S78 hinv hfu78 H locs ls hW hl
              obtain ⟨hz78, hI78, hf78, hv78⟩ := hinv
              have hp78 := hI78.s10
              have t78_10 : S78 0 10 = S72 0 10 := hf78 0 10 (by omega)
              have t78_13 : S78 0 13 = S72 0 13 := hf78 0 13 (by omega)
              obtain ⟨hva, hvb, hvc, hvd, hve⟩ := hv78
              have hva : S78 16 (0 : Int).toNat ≠ 0 ∨ S78 17 (0 : Int).toNat ≠ 0 ∨ zqE fu (zq_step S78) := hva
              refine lv_aload_n hX0 hB0 dX12_timesAt_78 rfl (lv_at hl 1 rfl) ?_
              refine z_get (Cn := RX12) (T := TX12) (N := 37) CX hW (v := .ref (o + 16)) zMO_0 rfl (fun w h => List.mem_cons_of_mem _ (List.mem_append_right _ h)) 30 (by decide) (List.mem_of_getElem? (i := 3) rfl) rfl rfl dX12_timesAt_79 ?_
              refine lv_iconst (v := zI 0) hX0 hB0 dX12_timesAt_82 rfl ?_
              refine z_iald (z := S78 16 ((0 : Int).toNat)) CX hW zMO_16 0 rfl (by refine ⟨?_, ?_, ?_⟩ <;> omega) rfl dX12_timesAt_83 ?_
              have hr83 := hI78.r16 ((0 : Int).toNat)
              refine z_if_ne (tgt := 185) CX dX12_timesAt_84 (by decide) (by constructor <;> omega) (fun c_84 => ?_) (fun c_84 => ?_)
              ·
                exact hXt78 t78 S78 ⟨hz78.trans (by rw [zm_timesAt_W78]; exact zif_f c_84 rfl), hI78, fun kk ii hk => (hf78 kk ii (by omega)), by omega⟩ H locs ls hW (lv_sub hl [0, 1, 2, 3, 4] rfl)
              ·
                refine lv_aload_n hX0 hB0 dX12_timesAt_87 rfl (lv_at hl 1 rfl) ?_
                refine z_get (Cn := RX12) (T := TX12) (N := 37) CX hW (v := .ref (o + 17)) zMO_0 rfl (fun w h => List.mem_cons_of_mem _ (List.mem_append_right _ h)) 31 (by decide) (List.mem_of_getElem? (i := 4) rfl) rfl rfl dX12_timesAt_88 ?_
                refine lv_iconst (v := zI 0) hX0 hB0 dX12_timesAt_91 rfl ?_
                refine z_iald (z := S78 17 ((0 : Int).toNat)) CX hW zMO_17 0 rfl (by refine ⟨?_, ?_, ?_⟩ <;> omega) rfl dX12_timesAt_92 ?_
                have hr92 := hI78.r17 ((0 : Int).toNat)
                refine z_if_ne (tgt := 185) CX dX12_timesAt_93 (by decide) (by constructor <;> omega) (fun c_93 => ?_) (fun c_93 => ?_)
                ·
                  exact hXt78 t78 S78 ⟨hz78.trans (by rw [zm_timesAt_W78]; exact zif_t c_84 (zif_f c_93 rfl)), hI78, fun kk ii hk => (hf78 kk ii (by omega)), by omega⟩ H locs ls hW (lv_sub hl [0, 1, 2, 3, 4] rfl)
                ·
                  refine lv_aload_n hX0 hB0 dX12_timesAt_96 rfl (lv_at hl 1 rfl) ?_
                  refine z_get (Cn := RX12) (T := TX12) (N := 37) CX hW (v := .ref (o + 16)) zMO_0 rfl (fun w h => List.mem_cons_of_mem _ (List.mem_append_right _ h)) 30 (by decide) (List.mem_of_getElem? (i := 3) rfl) rfl rfl dX12_timesAt_97 ?_
                  refine z_calli hW (va_runS (As := [.ref (o + 16)]) (rest := []) CX.fix (zk_greatestOf_f l o S78  hI78 ) (va_cwS 1 CX.fix.2.2.2.2 gX12_timesAt_X12_greatestOf rfl rfl rfl (by decide +kernel) ⟨Nat.le_of_ble_eq_true rfl, Nat.le_of_ble_eq_true rfl⟩) (z_preS CX hW) rfl rfl hl.1 rfl (lv_room (Nat.le_of_ble_eq_true rfl)) dX12_timesAt_100 ⟨Nat.zero_le _, Nat.zero_le _⟩) (fun z100 gn H locs hok hW => ?_)
                  obtain ⟨hz100, hg, hq100⟩ := hok
                  rw [hg] at hW
                  clear hg
                  have e100 : zm_greatestOf_f S78 = z100 := hz100.symm
                  clear hz100
                  refine lv_istore (lv' := [(5, .int (zI z100)), (4, .int (zI t78)), (0, .ref o), (1, .int (zI a)), (2, .int (zI b)), (3, .int (zI pt))]) hX0 hB0 dX12_timesAt_103 hl (by decide) rfl (fun ls hl => ?_)
                  refine lv_aload_n hX0 hB0 dX12_timesAt_105 rfl (lv_at hl 2 rfl) ?_
                  refine z_get (Cn := RX12) (T := TX12) (N := 37) CX hW (v := .ref (o + 17)) zMO_0 rfl (fun w h => List.mem_cons_of_mem _ (List.mem_append_right _ h)) 31 (by decide) (List.mem_of_getElem? (i := 4) rfl) rfl rfl dX12_timesAt_106 ?_
                  refine z_calli hW (va_runS (As := [.ref (o + 17)]) (rest := []) CX.fix (zk_greatestOf_g l o S78  hI78 ) (va_cwS 1 CX.fix.2.2.2.2 gX12_timesAt_X12_greatestOf rfl rfl rfl (by decide +kernel) ⟨Nat.le_of_ble_eq_true rfl, Nat.le_of_ble_eq_true rfl⟩) (z_preS CX hW) rfl rfl hl.1 rfl (lv_room (Nat.le_of_ble_eq_true rfl)) dX12_timesAt_109 ⟨Nat.zero_le _, Nat.zero_le _⟩) (fun z109 gn H locs hok hW => ?_)
                  obtain ⟨hz109, hg, hq109⟩ := hok
                  rw [hg] at hW
                  clear hg
                  have e109 : zm_greatestOf_g S78 = z109 := hz109.symm
                  clear hz109
                  refine lv_istore (lv' := [(6, .int (zI z109)), (5, .int (zI z100)), (4, .int (zI t78)), (0, .ref o), (1, .int (zI a)), (2, .int (zI b)), (3, .int (zI pt))]) hX0 hB0 dX12_timesAt_112 hl (by decide) rfl (fun ls hl => ?_)
                  refine lv_iload hX0 hB0 dX12_timesAt_114 (lv_at hl 1 rfl) ?_
                  refine lv_iconst (v := zI (-1)) hX0 hB0 dX12_timesAt_116 rfl ?_
                  refine z_icmp_ne (tgt := 144) CX dX12_timesAt_117 (by decide) (by constructor <;> omega) (by constructor <;> omega) (fun c_117 => ?_) (fun c_117 => ?_)
                  ·
                    refine lv_iload hX0 hB0 dX12_timesAt_144 (lv_at hl 0 rfl) ?_
                    refine lv_iconst (v := zI (-1)) hX0 hB0 dX12_timesAt_146 rfl ?_
                    refine z_icmp_eq (tgt := 157) CX dX12_timesAt_147 (by decide) (by constructor <;> omega) (by constructor <;> omega) (fun c_147 => ?_) (fun c_147 => ?_)
                    ·
                      refine lv_aload_n hX0 hB0 dX12_timesAt_157 rfl (lv_at hl 3 rfl) ?_
                      refine lv_iconst (v := zI 2) hX0 hB0 dX12_timesAt_158 rfl ?_
                      refine z_callv hW (va_runV (C := RX12) (As := [.int (zI 2)]) (rest := []) CX.fix (zk_goesBy l o S78 2 hI78 (by constructor <;> omega) (by omega)) (cwV 1 CX.fix.2.2.2.2 gX12_timesAt_X12_goesBy rfl rfl rfl (by decide +kernel) ⟨Nat.le_of_ble_eq_true rfl, Nat.le_of_ble_eq_true rfl⟩) (z_preV CX hW (r := (RX12, TX12, 37)) zMO_0 rfl) rfl rfl hl.1 rfl (lv_room (Nat.le_of_ble_eq_true rfl)) dX12_timesAt_159 ⟨Nat.zero_le _, Nat.zero_le _⟩) (fun gn H locs hok hW => ?_)
                      obtain ⟨hg, hI159, hf159, hq159⟩ := hok
                      obtain ⟨S159, e159⟩ : ∃ q, zm_goesBy S78 2 = q := ⟨_, rfl⟩
                      rw [e159] at hg hI159 hf159
                      have t159_10 : S159 0 10 = S78 0 10 := hf159 0 10 (by omega)
                      have t159_13 : S159 0 13 = S78 0 13 := hf159 0 13 (by omega)
                      skip
                      try rw [e159] at hq159
                      rw [hg] at hW
                      clear hg
                      refine lv_aload_n hX0 hB0 dX12_timesAt_162 rfl (lv_at hl 3 rfl) ?_
                      refine z_callv hW (va_runV (C := RX12) (As := []) (rest := []) CX.fix (zk_swaps l o S159  hI159 ) (cwV 0 CX.fix.2.2.2.2 gX12_timesAt_X12_swaps rfl rfl rfl (by decide +kernel) ⟨Nat.le_of_ble_eq_true rfl, Nat.le_of_ble_eq_true rfl⟩) (z_preV CX hW (r := (RX12, TX12, 37)) zMO_0 rfl) rfl rfl hl.1 rfl (lv_room (Nat.le_of_ble_eq_true rfl)) dX12_timesAt_163 ⟨Nat.zero_le _, Nat.zero_le _⟩) (fun gn H locs hok hW => ?_)
                      obtain ⟨hg, hI163, hf163, hq163⟩ := hok
                      obtain ⟨S163, e163⟩ : ∃ q, zm_swaps S159 = q := ⟨_, rfl⟩
                      rw [e163] at hg hI163 hf163
                      have t163_10 : S163 0 10 = S159 0 10 := hf163 0 10 (by omega)
                      have t163_13 : S163 0 13 = S159 0 13 := hf163 0 13 (by omega)
                      have t163_33 : S163 0 33 = S159 0 33 := hf163 0 33 (by omega)
                      skip
                      try rw [e163] at hq163
                      rw [hg] at hW
                      clear hg
                      refine lv_goto (tgt := 182) hX0 hB0 dX12_timesAt_166 (by decide) ?_
                      refine lv_goto (tgt := 78) hX0 hB0 dX12_timesAt_182 (by decide) ?_
                      exact ih78 t78 S163 ⟨hz78.trans (by rw [zm_timesAt_W78]; exact zif_t c_84 (zif_t c_93 (zlet_e e100 (zlet_e e109 (zif_f c_117 (zif_t c_147 (zlet_e e159 (zlet_e e163 rfl)))))))), hI163, fun kk ii hk => (((hf163 kk ii (by omega))).trans (hf159 kk ii (by omega))).trans (hf78 kk ii (by omega)), ⟨(by have hq : zq_step S78 = S163 := (by unfold zq_step; exact zlet_e e100 (zlet_e e109 (zif_f c_117 (zif_t c_147 (zlet_e e159 (zlet_e e163 rfl)))))); rw [← hq]; exact hva.resolve_left (fun h => h c_84) |>.resolve_left (fun h => h c_93)), by omega, by omega, by omega, by omega⟩⟩ (by cases fu with | zero => exact absurd ((hva.resolve_left (fun h => h c_84)).resolve_left (fun h => h c_93)) id | succ n => omega) H locs ls hW (lv_sub hl [2, 3, 4, 5, 6] rfl)
                    ·
                      refine lv_iload hX0 hB0 dX12_timesAt_150 (lv_at hl 1 rfl) ?_
                      refine lv_iload hX0 hB0 dX12_timesAt_152 (lv_at hl 0 rfl) ?_
                      refine z_icmp_le (tgt := 169) CX dX12_timesAt_154 (by decide) (by constructor <;> omega) (by constructor <;> omega) (fun c_154 => ?_) (fun c_154 => ?_)
                      ·
                        refine lv_aload_n hX0 hB0 dX12_timesAt_169 rfl (lv_at hl 3 rfl) ?_
                        refine lv_iconst (v := zI 3) hX0 hB0 dX12_timesAt_170 rfl ?_
                        refine z_callv hW (va_runV (C := RX12) (As := [.int (zI 3)]) (rest := []) CX.fix (zk_goesBy l o S78 3 hI78 (by constructor <;> omega) (by omega)) (cwV 1 CX.fix.2.2.2.2 gX12_timesAt_X12_goesBy rfl rfl rfl (by decide +kernel) ⟨Nat.le_of_ble_eq_true rfl, Nat.le_of_ble_eq_true rfl⟩) (z_preV CX hW (r := (RX12, TX12, 37)) zMO_0 rfl) rfl rfl hl.1 rfl (lv_room (Nat.le_of_ble_eq_true rfl)) dX12_timesAt_171 ⟨Nat.zero_le _, Nat.zero_le _⟩) (fun gn H locs hok hW => ?_)
                        obtain ⟨hg, hI171, hf171, hq171⟩ := hok
                        obtain ⟨S171, e171⟩ : ∃ q, zm_goesBy S78 3 = q := ⟨_, rfl⟩
                        rw [e171] at hg hI171 hf171
                        have t171_10 : S171 0 10 = S78 0 10 := hf171 0 10 (by omega)
                        have t171_13 : S171 0 13 = S78 0 13 := hf171 0 13 (by omega)
                        skip
                        try rw [e171] at hq171
                        rw [hg] at hW
                        clear hg
                        refine lv_aload_n hX0 hB0 dX12_timesAt_174 rfl (lv_at hl 3 rfl) ?_
                        refine lv_iload hX0 hB0 dX12_timesAt_175 (lv_at hl 1 rfl) ?_
                        refine lv_iload hX0 hB0 dX12_timesAt_177 (lv_at hl 0 rfl) ?_
                        refine z_callv hW (va_runV (C := RX12) (As := [.int (zI z100), .int (zI z109)]) (rest := []) CX.fix (zk_cuts l o S171 z100 z109 hI171 (by constructor <;> omega) (by constructor <;> omega) (by omega)) (cwV 2 CX.fix.2.2.2.2 gX12_timesAt_X12_cuts rfl rfl rfl (by decide +kernel) ⟨Nat.le_of_ble_eq_true rfl, Nat.le_of_ble_eq_true rfl⟩) (z_preV CX hW (r := (RX12, TX12, 37)) zMO_0 rfl) rfl rfl hl.1 rfl (lv_room (Nat.le_of_ble_eq_true rfl)) dX12_timesAt_179 ⟨Nat.zero_le _, Nat.zero_le _⟩) (fun gn H locs hok hW => ?_)
                        obtain ⟨hg, hI179, hf179, hq179⟩ := hok
                        obtain ⟨S179, e179⟩ : ∃ q, zm_cuts S171 z100 z109 = q := ⟨_, rfl⟩
                        rw [e179] at hg hI179 hf179
                        have t179_10 : S179 0 10 = S171 0 10 := hf179 0 10 (by omega)
                        have t179_13 : S179 0 13 = S171 0 13 := hf179 0 13 (by omega)
                        have t179_33 : S179 0 33 = S171 0 33 := hf179 0 33 (by omega)
                        skip
                        try rw [e179] at hq179
                        rw [hg] at hW
                        clear hg
                        refine lv_goto (tgt := 78) hX0 hB0 dX12_timesAt_182 (by decide) ?_
                        exact ih78 t78 S179 ⟨hz78.trans (by rw [zm_timesAt_W78]; exact zif_t c_84 (zif_t c_93 (zlet_e e100 (zlet_e e109 (zif_f c_117 (zif_f c_147 (zif_t c_154 (zlet_e e171 (zlet_e e179 rfl))))))))), hI179, fun kk ii hk => (((hf179 kk ii (by omega))).trans (hf171 kk ii (by omega))).trans (hf78 kk ii (by omega)), ⟨(by have hq : zq_step S78 = S179 := (by unfold zq_step; exact zlet_e e100 (zlet_e e109 (zif_f c_117 (zif_f c_147 (zif_t c_154 (zlet_e e171 (zlet_e e179 rfl))))))); rw [← hq]; exact hva.resolve_left (fun h => h c_84) |>.resolve_left (fun h => h c_93)), by omega, by omega, by omega, by omega⟩⟩ (by cases fu with | zero => exact absurd ((hva.resolve_left (fun h => h c_84)).resolve_left (fun h => h c_93)) id | succ n => omega) H locs ls hW (lv_sub hl [2, 3, 4, 5, 6] rfl)
                      ·
                        have d_154 : ¬ z100 ≤ z109 := by omega
                        refine lv_aload_n hX0 hB0 dX12_timesAt_157 rfl (lv_at hl 3 rfl) ?_
                        refine lv_iconst (v := zI 2) hX0 hB0 dX12_timesAt_158 rfl ?_
                        refine z_callv hW (va_runV (C := RX12) (As := [.int (zI 2)]) (rest := []) CX.fix (zk_goesBy l o S78 2 hI78 (by constructor <;> omega) (by omega)) (cwV 1 CX.fix.2.2.2.2 gX12_timesAt_X12_goesBy rfl rfl rfl (by decide +kernel) ⟨Nat.le_of_ble_eq_true rfl, Nat.le_of_ble_eq_true rfl⟩) (z_preV CX hW (r := (RX12, TX12, 37)) zMO_0 rfl) rfl rfl hl.1 rfl (lv_room (Nat.le_of_ble_eq_true rfl)) dX12_timesAt_159 ⟨Nat.zero_le _, Nat.zero_le _⟩) (fun gn H locs hok hW => ?_)
                        obtain ⟨hg, hI159, hf159, hq159⟩ := hok
                        obtain ⟨S159, e159⟩ : ∃ q, zm_goesBy S78 2 = q := ⟨_, rfl⟩
                        rw [e159] at hg hI159 hf159
                        have t159_10 : S159 0 10 = S78 0 10 := hf159 0 10 (by omega)
                        have t159_13 : S159 0 13 = S78 0 13 := hf159 0 13 (by omega)
                        skip
                        try rw [e159] at hq159
                        rw [hg] at hW
                        clear hg
                        refine lv_aload_n hX0 hB0 dX12_timesAt_162 rfl (lv_at hl 3 rfl) ?_
                        refine z_callv hW (va_runV (C := RX12) (As := []) (rest := []) CX.fix (zk_swaps l o S159  hI159 ) (cwV 0 CX.fix.2.2.2.2 gX12_timesAt_X12_swaps rfl rfl rfl (by decide +kernel) ⟨Nat.le_of_ble_eq_true rfl, Nat.le_of_ble_eq_true rfl⟩) (z_preV CX hW (r := (RX12, TX12, 37)) zMO_0 rfl) rfl rfl hl.1 rfl (lv_room (Nat.le_of_ble_eq_true rfl)) dX12_timesAt_163 ⟨Nat.zero_le _, Nat.zero_le _⟩) (fun gn H locs hok hW => ?_)
                        obtain ⟨hg, hI163, hf163, hq163⟩ := hok
                        obtain ⟨S163, e163⟩ : ∃ q, zm_swaps S159 = q := ⟨_, rfl⟩
                        rw [e163] at hg hI163 hf163
                        have t163_10 : S163 0 10 = S159 0 10 := hf163 0 10 (by omega)
                        have t163_13 : S163 0 13 = S159 0 13 := hf163 0 13 (by omega)
                        have t163_33 : S163 0 33 = S159 0 33 := hf163 0 33 (by omega)
                        skip
                        try rw [e163] at hq163
                        rw [hg] at hW
                        clear hg
                        refine lv_goto (tgt := 182) hX0 hB0 dX12_timesAt_166 (by decide) ?_
                        refine lv_goto (tgt := 78) hX0 hB0 dX12_timesAt_182 (by decide) ?_
                        exact ih78 t78 S163 ⟨hz78.trans (by rw [zm_timesAt_W78]; exact zif_t c_84 (zif_t c_93 (zlet_e e100 (zlet_e e109 (zif_f c_117 (zif_f c_147 (zif_f d_154 (zlet_e e159 (zlet_e e163 rfl))))))))), hI163, fun kk ii hk => (((hf163 kk ii (by omega))).trans (hf159 kk ii (by omega))).trans (hf78 kk ii (by omega)), ⟨(by have hq : zq_step S78 = S163 := (by unfold zq_step; exact zlet_e e100 (zlet_e e109 (zif_f c_117 (zif_f c_147 (zif_f d_154 (zlet_e e159 (zlet_e e163 rfl))))))); rw [← hq]; exact hva.resolve_left (fun h => h c_84) |>.resolve_left (fun h => h c_93)), by omega, by omega, by omega, by omega⟩⟩ (by cases fu with | zero => exact absurd ((hva.resolve_left (fun h => h c_84)).resolve_left (fun h => h c_93)) id | succ n => omega) H locs ls hW (lv_sub hl [2, 3, 4, 5, 6] rfl)
                  ·
                    refine lv_aload_n hX0 hB0 dX12_timesAt_120 rfl (lv_at hl 3 rfl) ?_
                    refine lv_iconst (v := zI 1) hX0 hB0 dX12_timesAt_121 rfl ?_
                    refine z_callv hW (va_runV (C := RX12) (As := [.int (zI 1)]) (rest := []) CX.fix (zk_goesBy l o S78 1 hI78 (by constructor <;> omega) (by omega)) (cwV 1 CX.fix.2.2.2.2 gX12_timesAt_X12_goesBy rfl rfl rfl (by decide +kernel) ⟨Nat.le_of_ble_eq_true rfl, Nat.le_of_ble_eq_true rfl⟩) (z_preV CX hW (r := (RX12, TX12, 37)) zMO_0 rfl) rfl rfl hl.1 rfl (lv_room (Nat.le_of_ble_eq_true rfl)) dX12_timesAt_122 ⟨Nat.zero_le _, Nat.zero_le _⟩) (fun gn H locs hok hW => ?_)
                    obtain ⟨hg, hI122, hf122, hq122⟩ := hok
                    obtain ⟨S122, e122⟩ : ∃ q, zm_goesBy S78 1 = q := ⟨_, rfl⟩
                    rw [e122] at hg hI122 hf122
                    have t122_10 : S122 0 10 = S78 0 10 := hf122 0 10 (by omega)
                    have t122_13 : S122 0 13 = S78 0 13 := hf122 0 13 (by omega)
                    skip
                    try rw [e122] at hq122
                    rw [hg] at hW
                    clear hg
                    refine lv_iload hX0 hB0 dX12_timesAt_125 (lv_at hl 2 rfl) ?_
                    refine lv_aload_n hX0 hB0 dX12_timesAt_127 rfl (lv_at hl 3 rfl) ?_
                    refine z_get (Cn := RX12) (T := TX12) (N := 37) CX hW (v := .ref (o + 17)) zMO_0 rfl (fun w h => List.mem_cons_of_mem _ (List.mem_append_right _ h)) 31 (by decide) (List.mem_of_getElem? (i := 4) rfl) rfl rfl dX12_timesAt_128 ?_
                    refine z_calli hW (va_runS (As := [.ref (o + 17)]) (rest := [.int (zI t78)]) CX.fix (zk_leastOf_g l o S122  hI122 ) (va_cwS 1 CX.fix.2.2.2.2 gX12_timesAt_X12_leastOf rfl rfl rfl (by decide +kernel) ⟨Nat.le_of_ble_eq_true rfl, Nat.le_of_ble_eq_true rfl⟩) (z_preS CX hW) rfl rfl hl.1 rfl (lv_room (Nat.le_of_ble_eq_true rfl)) dX12_timesAt_131 ⟨Nat.zero_le _, Nat.zero_le _⟩) (fun z131 gn H locs hok hW => ?_)
                    obtain ⟨hz131, hg, hq131⟩ := hok
                    rw [hg] at hW
                    clear hg
                    have e131 : zm_leastOf_g S122 = z131 := hz131.symm
                    clear hz131
                    refine z_iadd (z := t78 + z131) CX dX12_timesAt_134 rfl ?_
                    refine lv_istore (lv' := [(4, .int (zI (t78 + z131))), (6, .int (zI z109)), (5, .int (zI z100)), (0, .ref o), (1, .int (zI a)), (2, .int (zI b)), (3, .int (zI pt))]) hX0 hB0 dX12_timesAt_135 hl (by decide) rfl (fun ls hl => ?_)
                    refine lv_aload_n hX0 hB0 dX12_timesAt_137 rfl (lv_at hl 3 rfl) ?_
                    refine z_callv hW (va_runV (C := RX12) (As := []) (rest := []) CX.fix (zk_splits l o S122  hI122 ) (cwV 0 CX.fix.2.2.2.2 gX12_timesAt_X12_splits rfl rfl rfl (by decide +kernel) ⟨Nat.le_of_ble_eq_true rfl, Nat.le_of_ble_eq_true rfl⟩) (z_preV CX hW (r := (RX12, TX12, 37)) zMO_0 rfl) rfl rfl hl.1 rfl (lv_room (Nat.le_of_ble_eq_true rfl)) dX12_timesAt_138 ⟨Nat.zero_le _, Nat.zero_le _⟩) (fun gn H locs hok hW => ?_)
                    obtain ⟨hg, hI138, hf138, hq138⟩ := hok
                    obtain ⟨S138, e138⟩ : ∃ q, zm_splits S122 = q := ⟨_, rfl⟩
                    rw [e138] at hg hI138 hf138
                    have t138_10 : S138 0 10 = S122 0 10 := hf138 0 10 (by omega)
                    have t138_13 : S138 0 13 = S122 0 13 := hf138 0 13 (by omega)
                    have t138_33 : S138 0 33 = S122 0 33 := hf138 0 33 (by omega)
                    skip
                    try rw [e138] at hq138
                    rw [hg] at hW
                    clear hg
                    refine lv_goto (tgt := 182) hX0 hB0 dX12_timesAt_141 (by decide) ?_
                    refine lv_goto (tgt := 78) hX0 hB0 dX12_timesAt_182 (by decide) ?_
                    exact ih78 (t78 + z131) S138 ⟨hz78.trans (by rw [zm_timesAt_W78]; exact zif_t c_84 (zif_t c_93 (zlet_e e100 (zlet_e e109 (zif_t c_117 (zlet_e e122 (zlet_e e131 (zlet_e e138 rfl)))))))), hI138, fun kk ii hk => (((hf138 kk ii (by omega))).trans (hf122 kk ii (by omega))).trans (hf78 kk ii (by omega)), ⟨(by have hq : zq_step S78 = S138 := (by unfold zq_step; exact zlet_e e100 (zlet_e e109 (zif_t c_117 (zlet_e e122 (zlet_e e131 (zlet_e e138 rfl)))))); rw [← hq]; exact hva.resolve_left (fun h => h c_84) |>.resolve_left (fun h => h c_93)), by omega, by omega, by omega, by omega⟩⟩ (by cases fu with | zero => exact absurd ((hva.resolve_left (fun h => h c_84)).resolve_left (fun h => h c_93)) id | succ n => omega) H locs ls hW (lv_sub hl [0, 3, 4, 5, 6] rfl)
          have hEE : zqE 3999 S72 := by
            have q := zqH.ends (hH.mono (hFc34007 0 10 (by omega)) (hFc34007 0 13 (by omega)) (fun qq hqq => hFc34007 3 qq (by omega))) hI25 (a := a) (b := b) (p := pt) (by omega) (by omega) (by omega) (by omega) (by omega) (by rw [t25_10, t3_10]; exact hpp)
            rw [e31, e42, e46, e62, e72] at q
            exact q c_49
          exact hL78 _ 0 S72 ⟨rfl, hI72, fun kk ii hk => rfl, ⟨hEE, by omega, by omega, by omega, by omega⟩⟩ (by omega) H locs ls hW (lv_sub hl [0, 1, 2, 3, 4] rfl)
        ·
          refine lv_bipush (v := zI (-2)) hX0 hB0 dX12_timesAt_52 (by decide) ?_
          have hE : zm_timesAt S a b pt = (-2, S31) := by unfold zm_timesAt; exact zlet_e e3 (zlet_e e25 (zlet_e e31 (zlet_e e42 (zlet_e e46 (zif_t c_49 rfl)))))
          have hFr : ∀ kk ii : Nat, ¬ (kk = 0 ∧ ii = 33) ∧ ¬ kk = 13 ∧ ¬ kk = 14 ∧ ¬ kk = 15 ∧ ¬ kk = 16 ∧ ¬ kk = 17 ∧ ¬ kk = 18 ∧ ¬ kk = 19 ∧ ¬ (kk = 3 ∧ 3500 ≤ (ii : Int)) → S31 kk ii = S kk ii := fun kk ii hk => (((hf31 kk ii (by omega))).trans (show S25 kk ii = S3 kk ii from by rw [← e25]; exact za_ne (by omega))).trans (hf3 kk ii (by omega))
          rw [← hQ]
          exact z_iret (z := -2) CX hW (by rw [hE]; exact ⟨rfl, rfl, hI31, hFr, (show -4000 ≤ (-2 : Int) ∧ (-2 : Int) ≤ 64000 ∧ 0 ≤ S31 0 33 ∧ S31 0 33 ≤ 4000 from by omega)⟩) rfl dX12_timesAt_54
      ·
        refine lv_aload_n hX0 hB0 dX12_timesAt_9 rfl (lv_at hl 1 rfl) ?_
        refine z_get (Cn := RX12) (T := TX12) (N := 37) CX hW (v := .ref (o + 18)) zMO_0 rfl (fun w h => List.mem_cons_of_mem _ (List.mem_append_right _ h)) 32 (by decide) (List.mem_of_getElem? (i := 1) rfl) rfl rfl dX12_timesAt_10 ?_
        refine lv_iload hX0 hB0 dX12_timesAt_13 (lv_at hl 0 rfl) ?_
        refine lv_iconst (v := zI 0) hX0 hB0 dX12_timesAt_15 rfl ?_
        obtain ⟨S16, e16⟩ : ∃ q, za S3 18 i3.toNat 0 = q := ⟨_, rfl⟩
        refine z_iast CX hW zMO_18 0 rfl (by refine ⟨?_, ?_, ?_⟩ <;> omega) (g := zMO cI cJ o S16 f) (zMO_w18.trans (by rw [← e16]; rfl)) dX12_timesAt_16 (fun H locs hW => ?_)
        have hI16 : mI S16 := e16 ▸ hI3.w18 
        have t16_10 : S16 0 10 = S3 0 10 := by rw [← e16]; exact za_ne (by omega)
        have t16_13 : S16 0 13 = S3 0 13 := by rw [← e16]; exact za_ne (by omega)
        have t16_33 : S16 0 33 = S3 0 33 := by rw [← e16]; exact za_ne (by omega)
        refine lv_iinc (v := zI (i3 + 1)) (lv' := [(4, .int (zI (i3 + 1))), (0, .ref o), (1, .int (zI a)), (2, .int (zI b)), (3, .int (zI pt))]) hX0 hB0 dX12_timesAt_17 hl (k := 0) rfl (zI_add _ _) (by decide) rfl (fun ls hl => ?_)
        refine lv_goto (tgt := 3) hX0 hB0 dX12_timesAt_20 (by decide) ?_
        exact ih3 (i3 + 1) S16 ⟨⟨by omega, by omega⟩, (zfor_s _ _ _ (by omega)).trans ((congrArg (zm_timesAt_L3 i3) hz3).trans (by unfold zm_timesAt_L3; exact zlet_e e16 rfl)), hI16, fun kk ii hk => ((show S16 kk ii = S3 kk ii from by rw [← e16]; exact za_ne (by omega))).trans (hf3 kk ii (by omega))⟩ (by omega) H locs ls hW (lv_sub hl [0, 1, 2, 3, 4] rfl)
  exact hL3 _ 0 S ⟨⟨by omega, by omega⟩, zfor_0 _ _ _, hI, fun kk ii hk => rfl⟩ (Nat.lt_succ_self _) H locs ls hW (lv_sub hl [0, 1, 2, 3, 4] rfl)
end ZMo
